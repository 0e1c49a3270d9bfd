/-! THE CLASS'S CHOICES, its list of ready steps. -/
theorem swI_nth {α : Type} {D : Option α} : ∀ (as : List (Option α)) (z lo : Nat), lo ≤ z → z < lo + as.length → swI (z : Int) (lo : Int) as D = (as[z - lo]?).getD D := by
  intro as
  induction as with
  | nil => intro z lo h1 h2; simp at h2; omega
  | cons A as ih =>
    intro z lo h1 h2
    by_cases h : z = lo
    · subst h
      rw [swI_hit, Nat.sub_self]
      rfl
    · rw [swI_next (by omega)]
      have := ih z (lo + 1) (by omega) (by simp only [List.length_cons] at h2; omega)
      rw [show ((lo : Int) + 1) = ((lo + 1 : Nat) : Int) from rfl, this, show z - lo = (z - (lo + 1)) + 1 by omega]
      rfl
theorem swI_far {α : Type} {D : Option α} : ∀ (as : List (Option α)) (z lo : Nat), (z < lo ∨ lo + as.length ≤ z) → swI (z : Int) (lo : Int) as D = D := by
  intro as
  induction as with
  | nil => intro z lo _; rfl
  | cons A as ih =>
    intro z lo h
    simp only [List.length_cons] at h
    rw [swI_next (by omega), show ((lo : Int) + 1) = ((lo + 1 : Nat) : Int) from rfl]
    exact ih z (lo + 1) (by omega)
section XC
variable {en : pN} {d m p t c k a w i n l u ch q o nc nl nt : Nat} {v x b : Int32} {σ : qS} {P : Nat → fI} {F N G : fI}
theorem x_room (hB : XB σ m p P) (hP : PV P nc nl nt n) (hS : SV P w nc nl nt n N) (hw : F 8 = nI w) (hw2 : w ≤ 2) (ht : t < nt) (hi : i < n) (hk : kd P i = k) (h2 : 2 ≤ k) (h4 : k ≤ 4) : ∃ (G' : fI) (b' : Int32), qev en (d + 3) 46 [.ref m, .int (nI t), .int (nI i), .int (nI k)] (mS σ m F N b G) = some (some (.int (bt (roS P w N t i (ob P i) k))), mS σ m F N b' G') := by
  obtain ⟨⟨hc0, hc8⟩, -, ⟨ht0, ht4⟩, ⟨hn0, hn100⟩, hln, hth⟩ := hP
  obtain ⟨-, -, -, -, Sq, Sw⟩ := hS
  obtain ⟨-, -, ho1, -, -, hx5, hx7⟩ := hln i hi
  obtain ⟨ho, hoc⟩ := ho1 (by omega) (by omega)
  obtain ⟨q, hq, hq3⟩ := sv_q Sq (show t < 4 by omega)
  have hclq : clp (N (56 + t)) = q := by rw [hq]; exact n_cl (by omega)
  generalize ob P i = o at *
  have e9 : ∀ (M : fI) (b : Int32) (G : fI), (mS σ m M N b G).1 (p + 9) = P 9 := fun M b G => xb_P hB (by decide)
  unfold roS
  by_cases w1 : w = 1
  · refine ⟨G, b, le_X3_hasRoom en (d + 2) m _ _ _ _ _ ?_⟩
    simp (disch := omega) only [xb_lm hB, gdT, mS_m, hw, n_eq, w1, not_true, if_false, if_true, n_al, n_in, n_cl, mS_n, hq, hclq, n_le, n_gt, n_ge]
    by_cases z : q < 3
    · simp (disch := omega) [z, bt]
    · simp (disch := omega) [z, bt]
  · by_cases w0 : w = 0
    · refine ⟨G, b, le_X3_hasRoom en (d + 2) m _ _ _ _ _ ?_⟩
      simp (disch := omega) only [xb_lm hB, gdT, mS_m, hw, n_eq, w1, not_false_eq_true, if_true, if_false, gdP (xb_lp hB), xb_R hB, Nat.add_sub_cancel, nm_eq, n_in, n_cl, e9, ho, w0]
      rfl
    · have w2 : w = 2 := by omega
      obtain ⟨a, h72, a1, a9, -⟩ := sv_ce Sw w2 hc8 hoc
      have hcla : clp (N (72 + o)) = a := by rw [h72]; exact n_cl (by omega)
      rw [if_neg w1, if_neg w0, hcla]
      by_cases z : a < 9
      · refine ⟨G, b, le_X3_hasRoom en (d + 2) m _ _ _ _ _ ?_⟩
        rw [if_pos z]
        simp (disch := omega) only [xb_lm hB, gdT, mS_m, hw, n_eq, w1, not_false_eq_true, if_true, if_false, gdP (xb_lp hB), xb_R hB, Nat.add_sub_cancel, nm_eq, n_in, n_cl, e9, ho, w0, n_al, mS_n, h72, n_le, if_neg]
        rfl
      · rw [if_neg z]
        by_cases k3 : k = 3
        · obtain ⟨a5, e5, q1, q2, q3, q4, q5⟩ := hx5
          obtain ⟨a7, e7, r1, r2, r3, r4, r5⟩ := hx7
          obtain ⟨G5, hG5⟩ := x_exp (en := en) (d := d) (F := F) (N := N) (b := b) (G := G) hB q3 q4 q5
          have v5 : exv P 5 N i = evl P N a5 e5 := by unfold exv; rw [q1, q2, n_clp (by omega), n_clp (by omega)]
          have v7 : exv P 7 N i = evl P N a7 e7 := by unfold exv; rw [r1, r2, n_clp (by omega), n_clp (by omega)]
          rw [← v5] at hG5
          obtain ⟨G7, hG7⟩ := x_exp (en := en) (d := d) (F := F) (N := N) (b := exb (exv P 5 N i)) (G := G5) hB r3 r4 r5
          rw [← v7] at hG7
          refine ⟨G7, exb (exv P 7 N i), le_X3_hasRoom en (d + 2) m _ _ _ _ _ ?_⟩
          have n1 : ¬ ((1 : Int32) = 0) := by decide
          simp (disch := omega) only [xb_lm hB, gdT, mS_m, hw, n_eq, w1, not_false_eq_true, if_true, if_false, gdP (xb_lp hB), xb_R hB, Nat.add_sub_cancel, nm_eq, n_in, n_cl, e9, ho, w0, n_al, mS_n, h72, n_le, if_pos, k3, xb_P hB (show 12 < 25 by decide), xb_P hB (show 13 < 25 by decide), xb_P hB (show 14 < 25 by decide), xb_P hB (show 15 < 25 by decide), show P 12 i = nI a5 from q1, show P 13 i = nI e5 from q2, show P 14 i = nI a7 from r1, show P 15 i = nI e7 from r2, hG5, bI_some, hG7, mS_b hB.1]
          cases h5 : exv P 5 N i with
          | none => simp only [exb, n1, not_false_eq_true, if_true]; rfl
          | some y =>
            cases h7 : exv P 7 N i with
            | none => simp only [exb, n1, not_false_eq_true, if_true, not_true, if_false]; rfl
            | some x =>
              simp only [exb, not_true, if_false, exr, Option.getD_some]
              by_cases g : N (48 + o) = y
              · simp [g, bt]
              · simp [g, bt]
        · rw [if_neg k3]
          refine ⟨G, b, le_X3_hasRoom en (d + 2) m _ _ _ _ _ ?_⟩
          simp (disch := omega) only [xb_lm hB, gdT, mS_m, hw, n_eq, w1, not_false_eq_true, if_true, if_false, gdP (xb_lp hB), xb_R hB, Nat.add_sub_cancel, nm_eq, n_in, n_cl, e9, ho, w0, n_al, mS_n, h72, n_le, if_pos, k3]
          rfl
theorem x_needs (hB : XB σ m p P) (hk : k < 19) (ho : k = 2 → v = nI o) : qev en (d + 2) 45 [.ref m, .int (nI k), .int v] (mS σ m F N b G) = some (some (.int (bt (decide (3 ≤ k ∧ k ≤ 12 ∨ k = 2 ∧ vol P o = true)))), mS σ m F N b G) := by
  refine le_X3_needsEmptyQueue en (d + 1) m _ _ _ _ ?_
  have h11 : ¬ (3 ≤ k ∧ k ≤ 12) → L_X3_needsEmptyQueue_11 en (d + 1) m (nI k) v (mS σ m F N b G) = some (some (.int (bt (decide (3 ≤ k ∧ k ≤ 12 ∨ k = 2 ∧ vol P o = true)))), mS σ m F N b G) := by
    intro hk'
    refine le_X3_needsEmptyQueue_11 en (d + 1) m _ _ _ _ ?_
    by_cases k2 : k = 2
    · rw [ho k2]
      simp (disch := omega) only [xb_lm hB, gdT, n_eq, k2, not_true, if_false, gdP (xb_lp hB), xb_R hB, Nat.add_sub_cancel, nm_eq]
      rw [x_vol (P := P) (xb_lp hB) (by rw [xb_P0 hB]), bI_some]
      cases vol P o <;> simp [bt]
    · simp (disch := omega) only [xb_lm hB, gdT, n_eq, k2, not_false_eq_true, if_true]
      simp [hk', k2, bt]
  simp (disch := omega) only [xb_lm hB, gdT, n_gt, n_ge]
  by_cases k3 : k < 3
  · rw [if_pos k3]; exact h11 (by omega)
  · rw [if_neg k3]
    by_cases k12 : k ≤ 12
    · rw [if_pos k12, decide_eq_true (Or.inl ⟨by omega, k12⟩)]; rfl
    · rw [if_neg k12]; exact h11 (by omega)
end XC

