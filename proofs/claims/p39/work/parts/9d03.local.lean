/-! ONE MEMORY: what a step asks for, what it changes. -/
/-- a thread's own places -/
abbrev pv (t j : Nat) : Prop := j = t ∨ j = 4 + t ∨ j = 8 + t ∨ j = 12 + t ∨ (16 + t * 6 ≤ j ∧ j < 22 + t * 6)
section S2
variable {P : Nat → fI} {nc nl n t u i j k o : Nat} {N M : fI} {v x : Int32} {O Q : fI}
theorem wk_l (h : ∀ k, k < 6 → N (16 + t * 6 + k) = M (16 + t * 6 + k)) : ∀ (m i : Nat) (f : fI) (top : Nat), dpk O Q 233 m i top → (∀ j, i ≤ j → j < i + m → (O j = nI 2 → ∃ k, k < 6 ∧ Q j = nI (16 + t * 6 + k)) ∧ O j ≠ nI 3) → (t < 2) → wk O Q N m i f top = wk O Q M m i f top := by
  intro m
  induction m with
  | zero => intro i f top _ _ _; rfl
  | succ m ih =>
    intro i f top hd hj ht
    obtain ⟨⟨k, hk, hO, ha, -, -⟩, hd2⟩ := hd
    have hk' := op_lt k hk
    have hc : (O i).toNatClampNeg = k := by rw [hO]; exact n_cl (by omega)
    obtain ⟨g2, g3⟩ := hj i (Nat.le_refl i) (by omega)
    unfold wk
    dsimp only
    rw [hc] at hd2 ⊢
    have e : ap k (Q i) (f (top - ar k)) (f (top - ar k + 1)) N = ap k (Q i) (f (top - ar k)) (f (top - ar k + 1)) M := by
      unfold ap
      by_cases k1 : k = 1
      · rw [if_pos k1, if_pos k1]
      by_cases k2 : k = 2
      · obtain ⟨z, hz, e⟩ := g2 (by rw [hO, k2])
        rw [if_neg k1, if_neg k1, if_pos k2, if_pos k2, e, n_cl (by omega), h z hz]
      by_cases k3 : k = 3
      · exact absurd (by rw [hO, k3]) g3
      rw [if_neg k1, if_neg k1, if_neg k2, if_neg k2, if_neg k3, if_neg k3]
    rw [e]
    split
    · rfl
    · exact ih _ _ _ hd2 (fun j q1 q2 => hj j (by omega) (by omega)) ht
/-- a line's expression hangs on its thread's locals alone -/
theorem exv_l (hG : GP P nc nl n) (hi : i < n) (h8 : P 8 i = nI t) (ht : t < 2) (h : ∀ j, pv t j → N j = M j) {r : Nat} (hr : r = 5 ∨ r = 7) : exv P r N i = exv P r M i := by
  have hd := hG.2.1 i hi r hr
  have ho := hG.2.2.2.1 i t hi h8 ht r hr
  exact wk_l (t := t) (fun k hk => h _ (by omega)) _ _ _ _ hd (fun j q1 q2 => ho j q1 (by omega)) ht
theorem ac0_ag (hG : GP P nc nl n) (hi : i < n) (h8 : P 8 i = nI t) (ht : t < 2) (hp : ∀ j, pv t j → N j = M j) (hc : 1 ≤ kd P i → kd P i ≤ 4 → N (48 + ob P i) = M (48 + ob P i)) (h5 : kd P i = 5 → N (44 + ob P i) = M (44 + ob P i)) (h6 : kd P i = 6 → (N (40 + ob P i) = nI t ↔ M (40 + ob P i) = nI t) ∧ (N (40 + ob P i) = nI t → N (44 + ob P i) = M (44 + ob P i))) : (ac0 P N t i).1 = (ac0 P M t i).1 ∧ ∀ j, N j = M j → (ac0 P N t i).2 j = (ac0 P M t i).2 j := by
  have up : ∀ (f g : fI) (a : Nat) (v : Int32), (∀ j, N j = M j → f j = g j) → ∀ j, N j = M j → upd f a v j = upd g a v j := by
    intro f g a v h j hj
    show (if j = a then v else f j) = if j = a then v else g j
    rw [h j hj]
  have us : ∀ (f g : fI) (v : Int32), (∀ j, N j = M j → f j = g j) → ∀ j, N j = M j → setl P f t i v j = setl P g t i v j := by
    intro f g v h j hj
    unfold setl
    split
    · exact h j hj
    · exact up f g _ v h j hj
  have id : ∀ j, N j = M j → N j = M j := fun _ h => h
  unfold ac0
  by_cases k1 : kd P i = 1
  · rw [if_pos k1, if_pos k1, hc (by omega) (by omega)]
    exact ⟨rfl, us N M _ id⟩
  rw [if_neg k1, if_neg k1]
  by_cases k5 : kd P i = 5
  · rw [if_pos k5, if_pos k5, h5 k5]
    split
    · exact ⟨rfl, id⟩
    · exact ⟨rfl, up _ _ _ _ (up _ _ _ _ id)⟩
  rw [if_neg k5, if_neg k5]
  by_cases k6 : kd P i = 6
  · rw [if_pos k6, if_pos k6]
    obtain ⟨q1, q2⟩ := h6 k6
    by_cases g : N (40 + ob P i) = nI t
    · rw [if_neg (not_not_intro g), if_neg (not_not_intro (q1.mp g)), q2 g]
      split
      · exact ⟨rfl, up _ _ _ _ (up _ _ _ _ id)⟩
      · exact ⟨rfl, up _ _ _ _ id⟩
    · rw [if_pos g, if_pos (fun z => g (q1.mpr z))]
      exact ⟨rfl, id⟩
  rw [if_neg k6, if_neg k6]
  by_cases k12 : kd P i = 12
  · rw [if_pos k12, if_pos k12]
    exact ⟨rfl, id⟩
  rw [if_neg k12, if_neg k12, exv_l hG hi h8 ht hp (Or.inl rfl), exv_l hG hi h8 ht hp (Or.inr rfl)]
  cases exv P 5 M i with
  | none => exact ⟨rfl, id⟩
  | some v =>
    dsimp only
    by_cases k0 : kd P i = 0
    · rw [if_pos k0, if_pos k0]; exact ⟨rfl, us _ _ _ id⟩
    rw [if_neg k0, if_neg k0]
    by_cases k2 : kd P i = 2
    · rw [if_pos k2, if_pos k2]; exact ⟨rfl, up _ _ _ _ id⟩
    rw [if_neg k2, if_neg k2]
    by_cases k3 : kd P i = 3
    · rw [if_pos k3, if_pos k3, hc (by omega) (by omega)]
      cases exv P 7 M i with
      | none => exact ⟨rfl, id⟩
      | some y =>
        dsimp only
        split
        · exact ⟨rfl, us _ _ _ (up _ _ _ _ id)⟩
        · exact ⟨rfl, us _ _ _ id⟩
    rw [if_neg k3, if_neg k3]
    by_cases k4 : kd P i = 4
    · rw [if_pos k4, if_pos k4, hc (by omega) (by omega)]
      split
      · exact ⟨rfl, id⟩
      · exact ⟨rfl, us _ _ _ (up _ _ _ _ id)⟩
    rw [if_neg k4, if_neg k4]
    exact ⟨rfl, id⟩
/-- what agrees before a step agrees behind it -/
theorem st0_ag (hG : GP P nc nl n) (hS : SV P 0 nc nl 2 n N) (h1 : N t = 1) (ht : t < 2) (hp : ∀ j, pv t j → N j = M j) (hc : 1 ≤ kd P (clp (N (4 + t))) → kd P (clp (N (4 + t))) ≤ 4 → N (48 + ob P (clp (N (4 + t)))) = M (48 + ob P (clp (N (4 + t))))) (h5 : kd P (clp (N (4 + t))) = 5 → N (44 + ob P (clp (N (4 + t)))) = M (44 + ob P (clp (N (4 + t))))) (h6 : kd P (clp (N (4 + t))) = 6 → (N (40 + ob P (clp (N (4 + t)))) = nI t ↔ M (40 + ob P (clp (N (4 + t)))) = nI t) ∧ (N (40 + ob P (clp (N (4 + t)))) = nI t → N (44 + ob P (clp (N (4 + t)))) = M (44 + ob P (clp (N (4 + t)))))) : ∀ j, N j = M j → st0 P t N j = st0 P t M j := by
  obtain ⟨hi, -, h8⟩ := run_ln hG.1 hS ht h1
  obtain ⟨a1, a2⟩ := ac0_ag hG hi h8 ht hp hc h5 h6
  have e4 : M (4 + t) = N (4 + t) := (hp (4 + t) (by omega)).symm
  have et : tgtS P M (clp (N (4 + t))) (kd P (clp (N (4 + t)))) = tgtS P N (clp (N (4 + t))) (kd P (clp (N (4 + t)))) := by
    unfold tgtS
    rw [exv_l hG hi h8 ht hp (Or.inl rfl)]
  intro j hj
  unfold st0
  rw [e4, ← a1, et]
  by_cases g : (ac0 P N t (clp (N (4 + t)))).1 = 0
  · rw [if_neg (not_not_intro g), if_neg (not_not_intro g)]
    show (if j = t then _ else if j = 4 + t then _ else (ac0 P N t (clp (N (4 + t)))).2 j) = (if j = t then _ else if j = 4 + t then _ else (ac0 P M t (clp (N (4 + t)))).2 j)
    rw [a2 j hj]
  · rw [if_pos g, if_pos g]
    show (if j = 8 + t then _ else if j = 4 + t then _ else if j = t then _ else N j) = (if j = 8 + t then _ else if j = 4 + t then _ else if j = t then _ else M j)
    rw [hj]
/-- what a line leaves as it is -/
theorem ac0_o (hl : P 10 i = -2 ∨ ∃ k, P 10 i = nI k ∧ k < 6) (ht : t < 2) (hp : ¬ pv t j) (h5 : kd P i = 5 ∨ kd P i = 6 → j ≠ 40 + ob P i ∧ j ≠ 44 + ob P i) (hc : 2 ≤ kd P i → kd P i ≤ 4 → j ≠ 48 + ob P i) : (ac0 P N t i).2 j = N j := by
  have us : ∀ (f : fI) (v : Int32), setl P f t i v j = f j := by
    intro f v
    unfold setl
    split
    · rfl
    · rename_i g
      rcases hl with hl | ⟨k, hl, hk⟩
      · rw [hl] at g; exact absurd (by decide) g
      · rw [hl, n_cl (by omega)]
        exact pk_un (by omega)
  unfold ac0
  split
  · exact us _ _
  split
  · rename_i k5
    have := h5 (Or.inl k5)
    split
    · rfl
    · exact (pk_un this.2).trans (pk_un this.1)
  split
  · rename_i k6
    have := h5 (Or.inr k6)
    split
    · rfl
    · dsimp only
      split
      · exact (pk_un this.1).trans (pk_un this.2)
      · exact pk_un this.2
  split
  · rfl
  cases exv P 5 N i with
  | none => rfl
  | some v =>
    dsimp only
    split
    · exact us _ _
    split
    · rename_i k2; exact pk_un (hc (by omega) (by omega))
    split
    · rename_i k3
      cases exv P 7 N i with
      | none => rfl
      | some y =>
        dsimp only
        split
        · exact (us _ _).trans (pk_un (hc (by omega) (by omega)))
        · exact us _ _
    split
    · rename_i k4
      split
      · rfl
      · exact (us _ _).trans (pk_un (hc (by omega) (by omega)))
    · rfl
theorem st0_o (hG : GP P nc nl n) (hS : SV P 0 nc nl 2 n N) (h1 : N t = 1) (ht : t < 2) (hp : ¬ pv t j) (h5 : kd P (clp (N (4 + t))) = 5 ∨ kd P (clp (N (4 + t))) = 6 → j ≠ 40 + ob P (clp (N (4 + t))) ∧ j ≠ 44 + ob P (clp (N (4 + t)))) (hc : 2 ≤ kd P (clp (N (4 + t))) → kd P (clp (N (4 + t))) ≤ 4 → j ≠ 48 + ob P (clp (N (4 + t)))) : st0 P t N j = N j := by
  obtain ⟨hi, -, -⟩ := run_ln hG.1 hS ht h1
  obtain ⟨⟨u, hu, h8, -, -, -, hl⟩, -⟩ := gp_ln hG hi
  have a := ac0_o (N := N) (i := clp (N (4 + t))) hl ht hp h5 hc
  unfold st0
  split
  · show (if j = 8 + t then _ else if j = 4 + t then _ else if j = t then _ else N j) = N j
    rw [if_neg (by omega), if_neg (by omega), if_neg (by omega)]
  · show (if j = t then _ else if j = 4 + t then _ else (ac0 P N t (clp (N (4 + t)))).2 j) = N j
    rw [if_neg (by omega), if_neg (by omega)]
    exact a
/-- another thread's places -/
theorem st0_u (hG : GP P nc nl n) (hS : SV P 0 nc nl 2 n N) (h1 : N t = 1) (ht : t < 2) (hu : u ≠ t) (hu2 : u < 2) (hp : pv u j) : st0 P t N j = N j := by
  obtain ⟨hi, -, -⟩ := run_ln hG.1 hS ht h1
  exact st0_o hG hS h1 ht (by omega) (fun _ => ⟨by omega, by omega⟩) (fun _ _ => by omega)
end S2
