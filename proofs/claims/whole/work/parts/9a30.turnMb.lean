/-! THE RUN, the model's side: a turn. -/
section TM2
variable {en : pN} {d : Nat} {σ τ : qS} {X : fJ} {t ch w nc nl nt n len : Nat} {P g : Nat → fI} {K W F s y gg N R : fI} {D : Int64} {u v : Int32}
theorem irr {R R' : fI} : uIr (uIr σ 190 R) 190 R' = uIr σ 190 R' := by
  refine Prod.ext (funext fun a => funext fun k => ?_) rfl
  show (if a = 190 then R' k else if a = 190 then R k else σ.1 a k) = (if a = 190 then R' k else σ.1 a k)
  by_cases q : a = 190
  · rw [if_pos q, if_pos q]
  · rw [if_neg q, if_neg q, if_neg q]
theorem mk_190 : (mM (kpS (uIr σ 190 R) K W g X) F s y gg D).1 190 = R := by
  rw [mM_o (by decide) (by decide) (by decide) (by decide), kp_o (by decide)]
  funext k
  show (if (190 : Nat) = 190 then R k else σ.1 190 k) = R k
  exact if_pos rfl
theorem m_turn (h : RMi τ P w N nc nl nt n len g) (hP : PV P nc nl nt n) (hS : SV P w nc nl nt n N) (hw2 : w ≤ 2) (hlen : len ≤ 200) : ∃ (r : Int32) (τ' : qS), qev en (d + 9) 335 [.ref 151, .int u, .int v] τ = some (some (.int r), τ') ∧ trM τ P w N nc nl nt n len g u v r τ' := by
  have hpic := rm_pic h
  obtain ⟨hB, hR, hW, ⟨h12, h16, h18, h76, h78, h74⟩, hg, hX⟩ := h
  have hn := hP.2.2.2.1.2
  obtain ⟨F1, g1, R1, s1, e1, f1, hM1, h66, hR1, hr1⟩ := m_readyNow (en := en) (d := d) (W := τ.1 192) (g := g) (X := τ.2.1 199) (y := τ.1 188) (gg := τ.1 189) (s' := τ.1 187) (D := τ.2.1 151 72) hB hP hS hR h12 h16 h18 h76 hw2
  rw [hpic] at e1
  have hl40 := rdl_len hP hS
  obtain ⟨rb, e2, q2⟩ := m_isReadyS (en := en) (d := d + 7) (a := u) (b := v) (s := mM (kpS (uIr τ 190 R1) (τ.1 191) (τ.1 192) g (τ.2.1 199)) F1 s1 (τ.1 188) g1 (τ.2.1 151 72)) hP hS (by rw [mM_F]; exact h66) (by rw [mM_F]; exact hM1.2.2.1) mk_190 (by omega) hr1
  have same : RMi (mM (kpS (uIr τ 190 R1) (τ.1 191) (τ.1 192) g (τ.2.1 199)) F1 s1 (τ.1 188) g1 (τ.2.1 151 72)) P w N nc nl nt n len g := rm_mk (mb_190 hB) hR hW hM1.1 hM1.2.1 hM1.2.2.1 ((f1 76 (by decide)).trans h76) ((f1 78 (by decide)).trans h78) (by rw [f1 74 (by decide)]; exact h74) hX
  have fr1 : frM τ (mM (kpS (uIr τ 190 R1) (τ.1 191) (τ.1 192) g (τ.2.1 199)) F1 s1 (τ.1 188) g1 (τ.2.1 151 72)) := fm_pic (fun k hk _ _ => f1 k hk)
  have top : ∀ (r : Int32) (τ' : qS), (if ¬ bt rb = 0 then (if ¬ nI len = (200 : Int32) then bV (qev en (d + 8) 334 [.ref 151, .int u, .int v] (mM (kpS (uIr τ 190 R1) (τ.1 191) (τ.1 192) g (τ.2.1 199)) F1 s1 (τ.1 188) g1 (τ.2.1 151 72))) (fun s11 => bI (qev en (d + 8) 331 [.ref 151] s11) (fun w13 s14 => some (some (.int w13), s14))) else some (some (Value.int (-3 : Int32)), mM (kpS (uIr τ 190 R1) (τ.1 191) (τ.1 192) g (τ.2.1 199)) F1 s1 (τ.1 188) g1 (τ.2.1 151 72))) else (some (some (Value.int (-2 : Int32)), mM (kpS (uIr τ 190 R1) (τ.1 191) (τ.1 192) g (τ.2.1 199)) F1 s1 (τ.1 188) g1 (τ.2.1 151 72)) : Option qR)) = some (some (.int r), τ') → qev en (d + 9) 335 [.ref 151, .int u, .int v] τ = some (some (.int r), τ') := by
    intro r τ' hh
    refine le_X12_turn en (d + 8) _ _ _ _ ?_
    rw [if_pos h74, e1, bI_some, e2, bI_some, mM_F, (f1 78 (by decide)).trans h78]
    exact hh
  by_cases hr : rb = true
  · obtain ⟨t, ch, ru, rv, rc, rd⟩ := q2.mp hr
    by_cases h200 : len = 200
    · refine ⟨-3, _, top _ _ ?_, fr1, Or.inr ⟨t, ch, ⟨ru, rv, rc, rd⟩, Or.inl ⟨h200, rfl, same⟩⟩⟩
      rw [if_pos (by rw [hr]; decide), if_neg (by rw [h200]; exact fun w => w rfl)]
    · have hS' := SV_stp hP hS hw2 rd rc
      obtain ⟨rr, e3, K', W', F2, F3, s3, y3, g3, D3, rfl, a1, a2, a3, a4, a5, a6, a7, a8, a9, a10⟩ := m_stepRun (en := en) (d := d + 1) (gg := g1) (D := τ.2.1 151 72) (y := τ.1 188) (W := τ.1 192) (g := g) (X := τ.2.1 199) (K := τ.1 191) (mb_190 (R := R1) hB) hP hS hM1 hR1 hw2 rd rc ((f1 78 (by decide)).trans h78) (by omega) hW
      have g12 : ∀ j, (j < 58 ∨ 74 ≤ j) → j ≠ 76 → j ≠ 78 → F3 j = τ.1 151 j := fun j hj h1 h2 => (a5 j (by omega) h1 h2).trans (f1 j hj)
      obtain ⟨F4, g4, R4, s4, e4, f4, hM4, -, -, -⟩ := m_readyNow (en := en) (d := d) (K := K') (W := W') (F := F3) (s' := s3) (y := y3) (gg := g3) (D := D3) (g := stR g len (msV t ch F2)) (X := updJ (τ.2.1 199) len D3) (mb_190 (R := R1) hB) hP hS' a1 ((g12 12 (by decide) (by decide) (by decide)).trans h12) ((g12 16 (by decide) (by decide) (by decide)).trans h16) ((g12 18 (by decide) (by decide) (by decide)).trans h18) a4 hw2
      rw [irr] at e4
      refine ⟨nI (rdl P w (stp P w N t ch nt) nt nt).length, mM (kpS (uIr τ 190 R4) K' W' (stR g len (msV t ch F2)) (updJ (τ.2.1 199) len D3)) F4 s4 y3 g4 D3, top _ _ ?_, fm_pic (fun k hk k1 k2 => (f4 k hk).trans (g12 k hk k1 k2)), Or.inr ⟨t, ch, ⟨ru, rv, rc, rd⟩, Or.inr ⟨by omega, rfl, F2, ⟨a6, a7, a8, a9⟩, rm_mk (mb_190 hB) a1 a2 hM4.1 hM4.2.1 hM4.2.2.1 ((f4 76 (by decide)).trans a4) ((f4 78 (by decide)).trans a3) (by rw [f4 74 (by decide), g12 74 (by decide) (by decide) (by decide)]; exact h74) (fun i hi hi20 => ?_)⟩⟩⟩
      · rw [if_pos (by rw [hr]; decide), if_pos (show ¬ nI len = (200 : Int32) from fun w => h200 ((nI_eq (b := 200) (by omega) (by decide)).mp w)), ru, rv, e3, bV_some, e4, bI_some]
      · show (if i = len then D3 else τ.2.1 199 i) = τ.2.1 180 (300 + clp (stR g len (msV t ch F2) 2 i))
        by_cases q : i = len
        · rw [if_pos q]
          subst q
          rw [stR_n (by decide)] at hi20 ⊢
          have c9 : ch ≠ 9 := by
            intro z
            apply hi20
            show F2 69 = 20
            rw [a7]
            unfold acA
            rw [if_pos z]
          show D3 = τ.2.1 180 (300 + clp (F2 68))
          rw [a10 c9, a6]
          unfold lnA
          rw [if_neg c9]
          rfl
        · rw [if_neg q]
          rw [stR_o q] at hi20 ⊢
          exact hX i (by omega) hi20
  · refine ⟨-2, _, top _ _ ?_, fr1, Or.inl ⟨fun w => hr (q2.mpr w), rfl, same⟩⟩
    rw [if_neg (by rw [Bool.eq_false_iff.mpr hr]; decide)]
end TM2
