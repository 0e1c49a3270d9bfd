/-! JUDGING, the class's side: all states from which what is wanted may never come. -/
section LKX
variable {en : pN} {d N C no nn Q v u i0 e : Nat} {I L G X op tr A E T M : Nat → Nat} {s s' s'' τ : qS} {W B R K : Nat → Bool} {fr : Bool}
theorem x_walkLoop (hH : cjH A E T M N τ) : ∀ (m : Nat) (s : qS) (C : Nat) (I L G X : Nat → Nat) (no : Nat) (op : Nat → Nat) (nn : Nat) (tr : Nat → Nat) (Q : Nat) (K : Nat → Bool) (v3 : Nat), cjV A E T W B R M fr N τ s C I L G X no op nn tr Q K → muJ A N I X nn ≤ m → v3 + m ≤ 999999 → ∃ (s' : qS) (C' : Nat) (I' L' G' X' : Nat → Nat) (no' : Nat) (op' tr' : Nat → Nat) (Q' : Nat) (K' : Nat → Bool), L_X2_walkFrom_12 en (d + 2) (bt fr) (nI v3) s = some (none, s') ∧ cjV A E T W B R M fr N τ s' C' I' L' G' X' no' op' 0 tr' Q' K' ∧ ∀ u, I u ≠ 0 → I' u ≠ 0 := by
  obtain ⟨⟨hN, hAN⟩, hA, hG0, hM0, hMb⟩ := id hH
  intro m
  induction m with
  | zero =>
    intro s C I L G X no op nn tr Q K v3 hV hmu hf
    have hnn : nn = 0 := by have := @muJ_nn N nn I X A; omega
    subst hnn
    refine ⟨s, C, I, L, G, X, no, op, tr, Q, K, le_X2_walkFrom_12 en _ _ _ _ _ ?_, hV, fun u hu => hu⟩
    rw [if_neg (by rw [n_le (by decide) (by omega)]; omega), hV.2.2.1.1.2.2.1, if_pos (by decide)]
  | succ m ih =>
    intro s C I L G X no op nn tr Q K v3 hV hmu hf
    rcases nn with _ | nn
    · refine ⟨s, C, I, L, G, X, no, op, tr, Q, K, le_X2_walkFrom_12 en _ _ _ _ _ ?_, hV, fun u hu => hu⟩
      rw [if_neg (by rw [n_le (by decide) (by omega)]; omega), hV.2.2.1.1.2.2.1, if_pos (by decide)]
    · obtain ⟨hT, hF, hP, hfl, hK, hQ⟩ := id hV
      obtain ⟨⟨h9, h10, h11, h12⟩, hI, hL, hg, ho8, ht⟩ := id hP
      have hG := hG0.fr hF
      obtain ⟨nle1, nle2, nle3⟩ := hT.no_le
      obtain ⟨⟨a1, a2, a3, a4, a5⟩, ⟨b1, b2, b3⟩, ⟨c1, c2⟩, ⟨d1, d2⟩, f1, ⟨g1, g2⟩, k1, m1⟩ := id hT
      obtain ⟨v1, v2, v3'⟩ := c1 nn (by omega)
      generalize hv : tr nn = v at *
      have t109 : s.1 109 nn = nI v := by rw [ht nn (by omega), hv]
      have hA1 := hG.1 (v + 1) (by omega)
      have hX := g1 v v1 v2
      have hAN1 : A (v + 1) ≤ A N := hA (v + 1) N v1 (Nat.le_refl _)
      have hLv := f1 v v1 v2 v3'
      have hIv := a2 v v1
      have e11 : s.1 103 11 - (1 : Int32) = nI nn := by rw [h11, n_sr (by omega)]; rfl
      by_cases hx : X v < A (v + 1)
      · -- one more step of it
        obtain ⟨s', C', I', L', X', no', op', nn', tr', e1, e2, e3, e4⟩ := x_stepJ (en := en) (d := d) hH hV hv hx
        obtain ⟨s'', C2, I2, L2, G2, X2, no2, op2, tr2, Q2, K2, y1, y2, y3⟩ := ih s' C' I' L' G X' no' op' nn' tr' Q K (v3 + 1) e2 (by omega) (by omega)
        refine ⟨s'', C2, I2, L2, G2, X2, no2, op2, tr2, Q2, K2, le_X2_walkFrom_12 en _ _ _ _ _ ?_, y2, fun u hu => y3 u (e4 u hu)⟩
        obtain ⟨z1, z2, z3⟩ := hG.2.1 (X v) (by omega)
        rw [if_neg (by rw [n_le (by decide) (by omega)]; omega), if_neg (by rw [h11, n_ge (by decide) (by omega)]; omega), e11, gd_in (by omega) (by decide), n_cl (by omega), t109, nm_eq, gd_in (by omega) (by decide), show nI v + (1 : Int32) = nI (v + 1) from n_ar, gd_in (by omega) (by decide), n_cl (by omega), n_cl (by omega), hA1, (hL v v1 v2).2, if_neg (by rw [n_LE (by omega) (by omega)]; omega), gd_in (by omega) (by decide), n_cl (by omega), z1, x_stateOf z3 (by omega), bI_some, (hL v v1 v2).2, nm_eq, show nI (X v) + (1 : Int32) = nI (X v + 1) from n_ar, e1, bV_some, show nI v3 + (1 : Int32) = nI (v3 + 1) from n_ar]
        exact y1
      · -- left
        have hx : X v = A (v + 1) := by omega
        have hmu' : muJ A N I X nn ≤ m := by
          have : muJ A N I X (nn + 1) = muJ A N I X nn + 1 := by unfold muJ; omega
          omega
        -- the state behind the low number's way up
        let Lp : Nat → Nat := if nn = 0 then L else at1 L (tr (nn - 1)) (min (L (tr (nn - 1))) (L v))
        have up : ∃ s2 : qS, (∀ r, L_X2_walkFrom_161 en (d + 2) (bt fr) (nI v3) (nI v) s2 = some r → L_X2_walkFrom_12 en (d + 2) (bt fr) (nI v3) s = some r) ∧ cjF s s2 ∧ s2.1 104 = s.1 104 ∧ cjP s2 N C I Lp G X no op nn tr Q := by
          have first : ∀ r, (if (uI s 103 11 (nI nn)).1 103 11 ≤ (0 : Int32) then L_X2_walkFrom_161 en (d + 2) (bt fr) (nI v3) (nI v) (uI s 103 11 (nI nn)) else gd (p_inB (((uI s 103 11 (nI nn)).1 103 11) - (1 : Int32)) 20000 = true) (gd (p_inB ((uI s 103 11 (nI nn)).1 109 (((uI s 103 11 (nI nn)).1 103 11) - (1 : Int32)).toNatClampNeg) 20000 = true) (bI (qev en (d + 2) 412 [.int ((uI s 103 11 (nI nn)).1 106 ((uI s 103 11 (nI nn)).1 109 (((uI s 103 11 (nI nn)).1 103 11) - (1 : Int32)).toNatClampNeg).toNatClampNeg), .int ((uI s 103 11 (nI nn)).1 106 (nI v).toNatClampNeg)] (uI s 103 11 (nI nn))) (fun w12 s13 => nm (uI s13 106 (((uI s 103 11 (nI nn)).1 109 (((uI s 103 11 (nI nn)).1 103 11) - (1 : Int32)).toNatClampNeg).toNatClampNeg) w12) (fun s15 => L_X2_walkFrom_161 en (d + 2) (bt fr) (nI v3) (nI v) s15))))) = some r → L_X2_walkFrom_12 en (d + 2) (bt fr) (nI v3) s = some r := by
            intro r hr
            refine le_X2_walkFrom_12 en _ _ _ _ _ ?_
            rw [if_neg (by rw [n_le (by decide) (by omega)]; omega), if_neg (by rw [h11, n_ge (by decide) (by omega)]; omega), e11, gd_in (by omega) (by decide), n_cl (by omega), t109, nm_eq, gd_in (by omega) (by decide), show nI v + (1 : Int32) = nI (v + 1) from n_ar, gd_in (by omega) (by decide), n_cl (by omega), hA1, n_cl (show v < 2 ^ 31 by omega), (hL v v1 v2).2, if_pos (by rw [n_LE (by omega) (by omega)]; omega), nm_eq]
            rw [n_cl (show v < 2 ^ 31 by omega)] at hr
            exact hr
          have f11 : (uI s 103 11 (nI nn)).1 103 11 = nI nn := by rw [rdU, if_pos ⟨rfl, rfl⟩]
          have ro : ∀ c, c ≠ 103 → (uI s 103 11 (nI nn)).1 c = s.1 c := fun c hc => uI_ne hc
          have f103 : ∀ j, j ≠ 11 → (uI s 103 11 (nI nn)).1 103 j = s.1 103 j := fun j hj => by rw [rdU, if_neg (fun z => hj z.2)]
          by_cases q : nn = 0
          · have eLp : Lp = L := if_pos q
            refine ⟨uI s 103 11 (nI nn), fun r hr => first r ?_, ⟨fun c hc => ro c (by omega), rfl⟩, ro 104 (by decide), ⟨⟨(f103 9 (by decide)).trans h9, (f103 10 (by decide)).trans h10, f11, (f103 12 (by decide)).trans h12⟩, hI, by rw [eLp]; exact hL, hg, ho8, fun i hi => ht i (by omega)⟩⟩
            rw [f11, if_pos (by rw [n_ge (by decide) (by omega)]; omega)]
            exact hr
          · have eLp : Lp = at1 L (tr (nn - 1)) (min (L (tr (nn - 1))) (L v)) := if_neg q
            obtain ⟨p1, p2, p3⟩ := c1 (nn - 1) (by omega)
            have hLp := (f1 _ p1 p2 p3).1
            have hIp := a2 _ p1
            have tp : s.1 109 (nn - 1) = nI (tr (nn - 1)) := ht (nn - 1) (by omega)
            generalize hp : tr (nn - 1) = p at *
            refine ⟨uI (uI s 103 11 (nI nn)) 106 p (nI (min (L p) (L v))), fun r hr => first r ?_, ⟨fun c hc => by rw [uI_ne (by omega)]; exact ro c (by omega), rfl⟩, by rw [uI_ne (by decide)]; exact ro 104 (by decide), ⟨⟨(f103 9 (by decide)).trans h9, (f103 10 (by decide)).trans h10, f11, (f103 12 (by decide)).trans h12⟩, hI, fun u hu hn => ⟨?_, (hL u hu hn).2⟩, hg, ho8, fun i hi => ht i (by omega)⟩⟩
            · rw [f11, if_neg (by rw [n_ge (by decide) (by omega)]; omega), show nI nn - (1 : Int32) = nI (nn - 1) from n_sr (by omega), gd_in (by omega) (by decide), n_cl (show nn - 1 < 2 ^ 31 by omega), ro 109 (by decide), tp, gd_in (by omega) (by decide), n_cl (show p < 2 ^ 31 by omega), n_cl (show v < 2 ^ 31 by omega), ro 106 (by decide), (hL p p1 p2).1, (hL v v1 v2).1, x_minJ (by omega) (by omega), bI_some, nm_eq]
              exact hr
            · rw [rdU, eLp]
              by_cases q' : u = p
              · rw [if_pos ⟨rfl, q'⟩, q', at1_s]
              · rw [if_neg (fun z => q' z.2), at1_n q', ro 106 (by decide)]; exact (hL u hu hn).1
        obtain ⟨s2, u1, u2, u3, u4⟩ := up
        have hF2 := hF.tr' u2
        have hfl2 : ∀ v, v < N → s2.1 104 v = fgV (W v) (B v) (R v) (K v) := fun u hu => by rw [u3]; exact hfl u hu
        by_cases hl : L v = I v
        · -- and closed
          have eLp : Lp = L := by
            show (if nn = 0 then L else at1 L (tr (nn - 1)) (min (L (tr (nn - 1))) (L v))) = L
            by_cases q : nn = 0
            · rw [if_pos q]
            · rw [if_neg q]
              exact at1_id (hT.keep hv hl (by omega)).1.symm
          rw [eLp] at u4
          obtain ⟨k0, hk0, hk⟩ := b3 v v1 v2 v3'
          obtain ⟨s3, G', bL, K', w1, w2, w3, w4, w5, w6, w7, w8, w9⟩ := x_closeJ (en := en) (d := d) (fr := fr) (v := v) hN hAN hA (hG0.fr hF2) u4 hT.Q_le (by omega) hfl2 (fun u hu => by rw [hF2.1 93 (by omega)]; exact hM0 u hu) hMb (fun i hi => (b1 i hi).1) (fun i j hij hj q => by have := b2 i j hij hj; rw [q] at this; omega) (by omega) hk0 hk
          have hT' := hT.close hv hx hl (fun e he => (hG0.2.1 e he).2.1) hA hk0 hk w4 w5
          have hK' := KJ_close (fun e he => (hG0.2.1 e he).2.1) hA hT hT' w4 w5 w6 w8 w9 hK
          obtain ⟨s'', C2, I2, L2, G2, X2, no2, op2, tr2, Q2, K2, y1, y2, y3⟩ := ih s3 C I L G' X k0 op nn tr (Q + 1) K' (v3 + 1) ⟨hT', hF2.tr' w2, w3, w7, hK', by omega⟩ hmu' (by omega)
          refine ⟨s'', C2, I2, L2, G2, X2, no2, op2, tr2, Q2, K2, u1 _ (le_X2_walkFrom_161 en _ _ _ _ _ _ ?_), y2, y3⟩
          rw [gd_in (by omega) (by decide), n_cl (by omega), (u4.2.2.1 v v1 v2).1, u4.2.1 v (by omega), if_neg (by rw [hl]; exact not_not_intro rfl), w1, bV_some, show nI v3 + (1 : Int32) = nI (v3 + 1) from n_ar]
          exact y1
        · obtain ⟨hm1, hT'⟩ := hT.pop hv hx hl
          have eLp : Lp = at1 L (tr (nn - 1)) (min (L (tr (nn - 1))) (L v)) := if_neg (by omega)
          obtain ⟨p1, p2, p3⟩ := c1 (nn - 1) (by omega)
          have hpv : tr (nn - 1) ≠ v := fun q => by
            have := c2 (nn - 1) nn (by omega) (by omega)
            rw [hv, q] at this; omega
          rw [← eLp] at hT'
          have eLv : Lp v = L v := by rw [eLp]; exact at1_n (fun q => hpv q.symm)
          obtain ⟨s'', C2, I2, L2, G2, X2, no2, op2, tr2, Q2, K2, y1, y2, y3⟩ := ih s2 C I Lp G X no op nn tr Q K (v3 + 1) ⟨hT', hF2, u4, hfl2, hK, hQ⟩ hmu' (by omega)
          refine ⟨s'', C2, I2, L2, G2, X2, no2, op2, tr2, Q2, K2, u1 _ (le_X2_walkFrom_161 en _ _ _ _ _ _ ?_), y2, y3⟩
          rw [gd_in (by omega) (by decide), n_cl (by omega), (u4.2.2.1 v v1 v2).1, u4.2.1 v (by omega), eLv, if_pos (by rw [n_EQ (by omega) (by omega)]; exact hl), show nI v3 + (1 : Int32) = nI (v3 + 1) from n_ar]
          exact y1
end LKX
