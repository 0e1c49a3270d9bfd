/-! THE CLASS'S TAKE. -/
section XT
variable {en : pN} {d m p t c k a w i n l u ch q o nc nl nt : Nat} {v x b : Int32} {σ : qS} {P : Nat → fI} {F N G : fI}
theorem x_touch (hB : XB σ m p P) (ht : t < 4) (hw : F 8 = nI w) (hw2 : w ≤ 2) (hk : F 10 = nI k) (hk4 : k ≤ 4) (hF : F 9 = nI i) (hi : i < 100) (hn : N (4 + t) = nI i) (hx5 : expOK P 5 i) (hx7 : expOK P 7 i) (hl : P 10 i = -2 ∨ ∃ k, P 10 i = nI k ∧ k < 6) (ho : 1 ≤ k → x = nI c ∧ P 9 i = nI c ∧ c < 8) (hch : ch < 10)
    (h1 : k = 1 → (w = 2 → ∃ a, N (72 + c) = nI a ∧ 1 ≤ a ∧ a ≤ 9) ∧ (w = 2 → vol P c = false → nb (N (224 + t)) c + ch < 9) ∧ ∃ q, N (56 + t) = nI q ∧ q ≤ 3)
    (h2 : k = 2 → (w = 2 → ∃ a, N (72 + c) = nI a ∧ a < 9) ∧ (w = 1 → ∃ q, N (56 + t) = nI q ∧ q < 3))
    (h3 : k = 3 → w = 2 → ∃ a, N (72 + c) = nI a ∧ 1 ≤ a ∧ a ≤ 9 ∧ (a = 9 → exv P 7 N i ≠ none → ∀ y, exv P 5 N i = some y → N (48 + c) ≠ y))
    (h4 : k = 4 → w = 2 → ∃ a, N (72 + c) = nI a ∧ 1 ≤ a ∧ a < 9) : ∃ (G' : fI) (b' : Int32), qev en (d + 5) 55 [.ref m, .int (nI t), .int x, .int (nI ch)] (mS σ m F N b G) = some (some (.int (touS w P N t c ch i k).1), mS σ m F (touS w P N t c ch i k).2 b' G') := by
  by_cases k1 : k = 1
  · subst k1
    obtain ⟨rfl, ho2, ho3⟩ := ho (by decide)
    obtain ⟨a1, a2, q, hq, hq3⟩ := h1 rfl
    refine ⟨G, b, le_X3_touch en (d + 4) m _ _ _ _ _ ?_⟩
    have e72 : ∀ y, setl P N t i y (72 + c) = N (72 + c) := by
      intro y
      unfold setl
      split
      · rfl
      · rename_i hh
        rcases hl with z | ⟨j, z, hj⟩
        · exact absurd (by rw [z]; decide) hh
        · rw [z, n_cl (by omega), pk_un (by omega)]
    simp (disch := omega) only [xb_lm hB, gdT, mS_m, hk, n_eq, not_true, if_false, x_ldb hB ht hn hi ho2 ho3 hw hw2 hq hq3 a2 hch, bI_some, x_setl hB ht hF hi hl, bV_some]
    rw [x_look hB ht ho3 hw hw2 (by intro z; rw [e72]; exact a1 z), bV_some]
    rfl
  · obtain ⟨G5, hG5⟩ := x_wo (en := en) (d := d + 1) (N := N) (b := b) (G := G) (Or.inl rfl) hB hF hi hx5
    have hG5 : qev en (d + 4) 53 [.ref m, .int (5 : Int32)] (mS σ m F N b G) = _ := hG5
    obtain ⟨G7, hG7⟩ := x_wo (en := en) (d := d + 1) (N := N) (b := exb (exv P 5 N i)) (G := G5) (Or.inr rfl) hB hF hi hx7
    have hG7 : qev en (d + 4) 53 [.ref m, .int (7 : Int32)] (mS σ m F N (exb (exv P 5 N i)) G5) = _ := hG7
    have n1 : ¬ ((1 : Int32) = 0) := by decide
    cases h5 : exv P 5 N i with
    | none =>
      rw [h5] at hG5 hG7
      have et : touS w P N t c ch i k = (1, N) := by unfold touS; rw [if_neg k1, h5]
      rw [et]
      by_cases k3 : k = 3
      · refine ⟨G7, exb (exv P 7 N i), le_X3_touch en (d + 4) m _ _ _ _ _ ?_⟩
        simp (disch := omega) only [xb_lm hB, gdT, mS_m, hk, n_eq, k1, not_false_eq_true, if_true, hG5, bI_some, gdP (xb_lp hB), xb_R hB, Nat.add_sub_cancel, nm_eq, k3, not_true, if_false, hG7, mS_b hB.1]
        refine le_X3_touch_65 en (d + 4) m _ _ _ _ _ _ _ ?_
        rw [gd_true (xb_lm hB), if_pos (show ¬ exb none = 0 from n1)]
      · refine ⟨G5, 1, le_X3_touch en (d + 4) m _ _ _ _ _ ?_⟩
        simp (disch := omega) only [xb_lm hB, gdT, mS_m, hk, n_eq, k1, not_false_eq_true, if_true, hG5, bI_some, gdP (xb_lp hB), xb_R hB, Nat.add_sub_cancel, nm_eq, k3, mS_b hB.1]
        refine le_X3_touch_65 en (d + 4) m _ _ _ _ _ _ _ ?_
        rw [gd_true (xb_lm hB), if_pos (show ¬ exb none = 0 from n1)]
        rfl
    | some y =>
      rw [h5] at hG5 hG7
      by_cases k3 : k = 3
      · subst k3
        obtain ⟨rfl, ho2, ho3⟩ := ho (by decide)
        have g3 := h3 rfl
        cases h7 : exv P 7 N i with
        | none =>
          rw [h7] at hG7
          have et : touS w P N t c ch i 3 = (1, N) := by unfold touS; rw [if_neg (by decide), h5]; simp only [h7]; rfl
          rw [et]
          refine ⟨G7, 1, le_X3_touch en (d + 4) m _ _ _ _ _ ?_⟩
          simp (disch := omega) only [xb_lm hB, gdT, mS_m, hk, n_eq, k1, not_false_eq_true, if_true, hG5, bI_some, gdP (xb_lp hB), xb_R hB, Nat.add_sub_cancel, nm_eq, not_true, if_false, hG7, mS_b hB.1, Nat.reduceEqDiff]
          refine le_X3_touch_65 en (d + 4) m _ _ _ _ _ _ _ ?_
          rw [gd_true (xb_lm hB), if_neg (show ¬ ¬ exb (some y) = 0 from not_not_intro rfl)]
          simp only [gdP (xb_lp hB), xb_R hB, Nat.add_sub_cancel, nm_eq, mS_b hB.1, exb, n1, if_false]
        | some z =>
          rw [h7] at hG7
          have et : touS w P N t c ch i 3 = (0, swp w P N t c i y z) := by unfold touS; rw [if_neg (by decide), h5]; simp only [h7]; rfl
          rw [et]
          refine ⟨G7, 0, le_X3_touch en (d + 4) m _ _ _ _ _ ?_⟩
          simp (disch := omega) only [xb_lm hB, gdT, mS_m, hk, n_eq, k1, not_false_eq_true, if_true, hG5, bI_some, gdP (xb_lp hB), xb_R hB, Nat.add_sub_cancel, nm_eq, not_true, if_false, hG7, mS_b hB.1, Nat.reduceEqDiff]
          refine le_X3_touch_65 en (d + 4) m _ _ _ _ _ _ _ ?_
          rw [gd_true (xb_lm hB), if_neg (show ¬ ¬ exb (some y) = 0 from not_not_intro rfl)]
          have hs := x_swp (en := en) (d := d) (v := z) (x := y) (b := exb (some z)) (G := G7) hB ht ho3 hw hw2 (fun e => by obtain ⟨a, q1, q2, q3, -⟩ := g3 e; exact ⟨a, q1, q2, q3⟩) (fun e ey => by
            obtain ⟨a, q1, q2, q3, q4⟩ := g3 e
            refine ⟨a, q1, ?_⟩
            rcases Nat.lt_or_ge a 9 with r | r
            · exact r
            · exact absurd ey (q4 (by omega) (by rw [h7]; exact fun z => by cases z) y h5)) hF hi hl
          simp only [gdP (xb_lp hB), xb_R hB, Nat.add_sub_cancel, nm_eq, mS_b hB.1, mS_m, hk]
          rw [if_pos (show exb (some z) = 0 from rfl), n_to (by decide)]
          show bV (qev en (d + 4) 56 [.ref m, .int (nI t), .int (nI c), .int (exr (some y)), .int (exr (some z))] (mS σ m F N (exb (some z)) G7)) _ = _
          rw [show exr (some y) = y from rfl, show exr (some z) = z from rfl, hs, bV_some]
          rfl
      · refine ⟨G5, 0, le_X3_touch en (d + 4) m _ _ _ _ _ ?_⟩
        simp (disch := omega) only [xb_lm hB, gdT, mS_m, hk, n_eq, k1, not_false_eq_true, if_true, hG5, bI_some, gdP (xb_lp hB), xb_R hB, Nat.add_sub_cancel, nm_eq, k3, mS_b hB.1]
        refine le_X3_touch_65 en (d + 4) m _ _ _ _ _ _ _ ?_
        rw [gd_true (xb_lm hB), if_neg (show ¬ ¬ exb (some y) = 0 from not_not_intro rfl)]
        simp only [gdP (xb_lp hB), xb_R hB, Nat.add_sub_cancel, nm_eq, mS_b hB.1, mS_m, hk]
        rw [if_pos (show exb (some y) = 0 from rfl), n_to (by omega), show exr (some y) = y from rfl]
        have hk' : k = 0 ∨ k = 2 ∨ k = 4 := by omega
        rcases hk' with rfl | rfl | rfl
        · have et : touS w P N t c ch i 0 = (0, setl P N t i y) := by unfold touS; rw [if_neg (by decide), h5]; rfl
          rw [et]
          show bV (qev en (d + 4) 54 [.ref m, .int (nI t), .int y] _) _ = _
          rw [x_setl hB ht hF hi hl, bV_some]
          rfl
        · obtain ⟨rfl, ho2, ho3⟩ := ho (by decide)
          obtain ⟨b1, b2⟩ := h2 rfl
          have et : touS w P N t c ch i 2 = (0, sto w P N t c y) := by unfold touS; rw [if_neg (by decide), h5]; rfl
          rw [et]
          show bV (qev en (d + 4) 67 [.ref m, .int (nI t), .int (nI c), .int y] _) _ = _
          rw [x_store hB ht ho3 hw hw2 b1 b2, bV_some]
          rfl
        · obtain ⟨rfl, ho2, ho3⟩ := ho (by decide)
          have et : touS w P N t c ch i 4 = add2 w P N t c i y := by unfold touS; rw [if_neg (by decide), h5]; rfl
          rw [et]
          show L_X3_touch_151 en (d + 4) m (nI t) (nI c) y _ = _
          refine le_X3_touch_151 en (d + 4) m _ _ _ _ _ ?_
          rw [gd_true (xb_lm hB), x_add hB ht ho3 hw hw2 (h4 rfl) hF hi hl, bI_some]
          rfl
end XT

