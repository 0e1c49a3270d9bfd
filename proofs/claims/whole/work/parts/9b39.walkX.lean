/-! JUDGING, the class's side: the walk. -/
theorem at1_sw {α : Type} {f : Nat → α} {a b : Nat} {x y : α} (h : a ≠ b) : at1 (at1 f a x) b y = at1 (at1 f b y) a x := by
  funext i
  by_cases q : i = a
  · rw [q, at1_n h, at1_s, at1_s]
  · rw [at1_n q]
    by_cases q' : i = b
    · rw [q', at1_s, at1_s]
    · rw [at1_n q', at1_n q', at1_n q]
theorem at1_id {α : Type} {f : Nat → α} {a : Nat} {x : α} (h : f a = x) : at1 f a x = f := by
  funext i
  unfold at1
  by_cases q : i = a
  · rw [if_pos q, q, h]
  · rw [if_neg q]
/-- all that holds of the class's groups at once -/
abbrev cjV (A E T : Nat → Nat) (W B R : Nat → Bool) (M : Nat → Nat) (fr : Bool) (N : Nat) (τ s : qS) (C : Nat) (I L G X : Nat → Nat) (no : Nat) (op : Nat → Nat) (nn : Nat) (tr : Nat → Nat) (Q : Nat) (K : Nat → Bool) : Prop := TJ A E W N C I L G X no op nn tr Q ∧ cjF τ s ∧ cjP s N C I L G X no op nn tr Q ∧ (∀ v, v < N → s.1 104 v = fgV (W v) (B v) (R v) (K v)) ∧ KJ A E T W M fr N G K ∧ Q + no ≤ C
/-- the graph and the marks: what stays -/
abbrev cjH (A E T M : Nat → Nat) (N : Nat) (s : qS) : Prop := (N ≤ 20000 ∧ A N ≤ 200000) ∧ (∀ i j, i ≤ j → j ≤ N → A i ≤ A j) ∧ cjG A E T N s ∧ (∀ v, v < N → s.1 93 v = nI (M v)) ∧ ∀ v, v < N → M v < 2 ^ 30
section WKJ
variable {en : pN} {d N C no nn Q v u i0 e : Nat} {I L G X op tr A E T M : Nat → Nat} {s s' s'' τ : qS} {W B R K : Nat → Bool} {fr : Bool}
theorem cjH.fr' (h : cjH A E T M N τ) (g : cjF τ s) : cjH A E T M N s := ⟨h.1, h.2.1, h.2.2.1.fr g, fun v hv => by rw [g.1 93 (by omega)]; exact h.2.2.2.1 v hv, h.2.2.2.2⟩
theorem TJ.Q_le (h : TJ A E W N C I L G X no op nn tr Q) : ∀ v, v < N → G v ≤ Q := fun v hv => by
  by_cases q : G v = 0
  · omega
  · exact (h.2.2.2.2.2.2.2 v hv q).1
theorem muJ_nn : nn ≤ muJ A N I X nn := by unfold muJ; omega
/-- a step out of the state on top -/
theorem x_stepJ (hH : cjH A E T M N τ) (hV : cjV A E T W B R M fr N τ s C I L G X no op (nn + 1) tr Q K) (hv : tr nn = v) (hx : X v < A (v + 1)) :
    ∃ (s' : qS) (C' : Nat) (I' L' X' : Nat → Nat) (no' : Nat) (op' : Nat → Nat) (nn' : Nat) (tr' : Nat → Nat), qev en (d + 2) 29 [.ref 103, .int (nI v), .int (nI (E (X v)))] (uI s 110 v (nI (X v + 1))) = some (none, s') ∧ cjV A E T W B R M fr N τ s' C' I' L' G X' no' op' nn' tr' Q K ∧ muJ A N I' X' nn' + 1 = muJ A N I X (nn + 1) ∧ ∀ u, I u ≠ 0 → I' u ≠ 0 := by
  obtain ⟨⟨hN, hAN⟩, hA, hG0, hM, hMb⟩ := hH
  obtain ⟨hT, hF, hP, hf, hK, hQ⟩ := hV
  have hG := hG0.fr hF
  obtain ⟨⟨h9, h10, h11, h12⟩, hI, hL, hg, ho8, ht⟩ := id hP
  obtain ⟨nle1, nle2, nle3⟩ := hT.no_le
  obtain ⟨⟨a1, a2, a3, a4, a5⟩, ⟨b1, b2, b3⟩, ⟨c1, c2⟩, ⟨d1, d2⟩, f1, ⟨g1, g2⟩, k1, m1⟩ := id hT
  obtain ⟨v1, v2, v3⟩ := c1 nn (by omega)
  rw [hv] at v1 v2 v3
  have hA1 : A (v + 1) ≤ A N := hA (v + 1) N v1 (Nat.le_refl _)
  obtain ⟨z1, z2, z3⟩ := hG.2.1 (X v) (by omega)
  generalize hto : E (X v) = to at *
  let s1 : qS := uI s 110 v (nI (X v + 1))
  have b1r : ∀ c, c ≠ 110 → s1.1 c = s.1 c := fun c hc => uI_ne hc
  have hP1 : cjP s1 N C I L G (at1 X v (X v + 1)) no op (nn + 1) tr Q := ⟨⟨h9, h10, h11, h12⟩, hI, fun u hu hn => ⟨(hL u hu hn).1, by
    show (uI s 110 v (nI (X v + 1))).1 110 u = _
    rw [rdU]
    by_cases q : u = v
    · rw [if_pos ⟨rfl, q⟩, q, at1_s]
    · rw [if_neg (fun z => q z.2), at1_n q]; exact (hL u hu hn).2⟩, hg, ho8, ht⟩
  have hF1 : cjF τ s1 := ⟨fun c hc => (b1r c (by omega)).trans (hF.1 c hc), hF.2⟩
  have hf1 : ∀ v, v < N → s1.1 104 v = fgV (W v) (B v) (R v) (K v) := hf
  have idL : at1 L v (L v) = L := at1_id rfl
  have e0 := x_isWantedJ (en := en) (d := d) (s := s1) hf1 z2 hN
  have I105 : s1.1 105 to = nI (I to) := hI to (by omega)
  have Ib := a2 to z2
  have Gb := hT.Q_le to z2
  cases hw : W to
  · by_cases qi : I to = 0
    · -- a new one
      have hroom := hT.room z2 qi
      have hne : to ≠ v := fun q => v2 (by rw [← q]; exact qi)
      have hAt : A to ≤ A (to + 1) := hA _ _ (by omega) z2
      obtain ⟨s', e1, e2, e3, e4⟩ := x_enterJ (en := en) (d := d) hP1 hN z2 (hG0.fr hF1) (by omega) (by omega) hroom
      have hr : ∀ i, i < nn + 1 → rcW A E W (tr i) to := fun i hi => by
        have : rcW A E W (tr i) v := d1 i v hi v1 v2 v3 (by
          by_cases q : i = nn
          · rw [q, hv]; exact Nat.le_refl _
          · have := c2 i nn (by omega) (by omega)
            rw [hv] at this
            exact Nat.le_of_lt this)
        rw [← hto]
        exact rcW_e this (g1 v v1 v2).1 hx (by rw [hto]; exact hw)
      obtain ⟨t1, t2⟩ := hT.enter z2 qi hAt hw hr
      have xv : at1 X to (A to) v = X v := at1_n (fun q => hne q.symm)
      obtain ⟨t3, t4⟩ := t1.next (i0 := nn) (v := v) (l := L v) (by omega) (by rw [at1_n (by omega)]; exact hv) (by rw [xv]; exact hx) (by rw [at1_n (fun q => hne q.symm)]; exact Nat.le_refl _) (Or.inl (by rw [at1_n (fun q => hne q.symm)])) (fun _ => by
        rw [xv, hto, at1_s]
        exact ⟨by omega, fun _ => by have := (f1 v v1 v2 v3).1; have := a2 v v1; omega⟩)
      have eX : at1 (at1 X v (X v + 1)) to (A to) = at1 (at1 X to (A to)) v (at1 X to (A to) v + 1) := by rw [xv]; exact at1_sw (fun q => hne q.symm)
      have eL : at1 (at1 L to (C + 1)) v (L v) = at1 L to (C + 1) := at1_id (at1_n (fun q => hne q.symm))
      rw [eX] at e4
      rw [eL] at t3
      refine ⟨s', C + 1, _, _, _, no + 1, _, nn + 1 + 1, _, le_X2_follow en _ _ _ _ _ ?_, ⟨t3, hF1.tr' e2, e4, fun u hu => by rw [e3]; exact hf1 u hu, hK, by omega⟩, by rw [t4, t2], fun u hu => ?_⟩
      · rw [e0, bI_some, hw, if_pos (show bt false = (0 : Int32) from rfl), gd_in (by omega) (by decide), n_cl (by omega), I105, if_neg (by rw [qi]; exact not_not_intro rfl), e1, bV_some]
      · by_cases q : u = to
        · rw [q, at1_s]; omega
        · rw [at1_n q]; exact hu
    · by_cases qg : G to = 0
      · -- an open one
        have hmin : min (L v) (I to) ≤ L v := Nat.min_le_left _ _
        have hLv := (f1 v v1 v2 v3).1
        have hLb := a2 v v1
        have hrt : rcW A E W v to := by
          rw [← hto]
          exact rcW_e rcW_r (g1 v v1 v2).1 hx (by rw [hto]; exact hw)
        obtain ⟨t3, t4⟩ := hT.next (i0 := nn) (v := v) (l := min (L v) (I to)) (by omega) hv hx hmin (by
          by_cases q : L v ≤ I to
          · left; exact Nat.min_eq_left q
          · right; exact ⟨to, z2, qi, qg, (Nat.min_eq_right (by omega)).symm, hrt⟩) (fun _ => by rw [hto]; exact ⟨qi, fun _ => Nat.min_le_right _ _⟩)
        refine ⟨uI s1 106 v (nI (min (L v) (I to))), C, I, _, _, no, op, nn + 1, tr, le_X2_follow en _ _ _ _ _ ?_, ⟨t3, hF1.tr' ⟨fun c hc => uI_ne (by omega), rfl⟩, ⟨⟨h9, h10, h11, h12⟩, hI, fun u hu hn => ⟨?_, (hP1.2.2.1 u hu hn).2⟩, hg, ho8, ht⟩, hf1, hK, hQ⟩, t4, fun u hu => hu⟩
        · rw [e0, bI_some, hw, if_pos (show bt false = (0 : Int32) from rfl), gd_in (by omega) (by decide), n_cl (by omega), I105, if_pos (by rw [n_eq (by decide) (by omega)]; exact qi), show s1.1 107 to = nI (G to) from hg to (by omega), if_neg (by rw [qg]; exact not_not_intro rfl), gd_in (by omega) (by decide), n_cl (by omega), show s1.1 106 v = nI (L v) from (hL v v1 v2).1, x_minJ (by omega) (by omega), bI_some, nm_eq]
        · show (uI s1 106 v (nI (min (L v) (I to)))).1 106 u = _
          rw [rdU]
          by_cases q : u = v
          · rw [if_pos ⟨rfl, q⟩, q, at1_s]
          · rw [if_neg (fun z => q z.2), at1_n q]; exact (hL u hu hn).1
      · -- one with its group
        obtain ⟨t3, t4⟩ := hT.next (i0 := nn) (v := v) (l := L v) (by omega) hv hx (Nat.le_refl _) (Or.inl rfl) (fun _ => by rw [hto]; exact ⟨qi, fun z => absurd z qg⟩)
        rw [idL] at t3
        refine ⟨s1, C, I, L, _, no, op, nn + 1, tr, le_X2_follow en _ _ _ _ _ ?_, ⟨t3, hF1, hP1, hf1, hK, hQ⟩, t4, fun u hu => hu⟩
        have gne : ¬ nI (G to) = (0 : Int32) := by
          rw [n_eq (by decide) (by omega)]
          exact qg
        rw [e0, bI_some, hw, if_pos (show bt false = (0 : Int32) from rfl), gd_in (by omega) (by decide), n_cl (by omega), I105, if_pos (by rw [n_eq (by decide) (by omega)]; exact qi), show s1.1 107 to = nI (G to) from hg to (by omega), if_pos gne]
  · -- a wanted one
    obtain ⟨t3, t4⟩ := hT.next (i0 := nn) (v := v) (l := L v) (by omega) hv hx (Nat.le_refl _) (Or.inl rfl) (fun h => by rw [hto, hw] at h; exact Bool.noConfusion h)
    rw [idL] at t3
    refine ⟨s1, C, I, L, _, no, op, nn + 1, tr, le_X2_follow en _ _ _ _ _ ?_, ⟨t3, hF1, hP1, hf1, hK, hQ⟩, t4, fun u hu => hu⟩
    rw [e0, bI_some, hw, if_neg (show ¬ bt true = (0 : Int32) by decide)]
end WKJ
