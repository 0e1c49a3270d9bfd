/-! ONE MEMORY: the step is the one by places. -/
section S1
variable {P : Nat → fI} {nc nl n t u i j k o : Nat} {N M : fI} {v x : Int32}
theorem wrg_e (h : e56 N M) : e56 (wrg N t x) (wrg M t x) := uE (uE (uE h))
theorem setl_lo (ht : t < 2) (hj : j < 16) : setl P N t i v j = N j := by
  unfold setl
  split
  · rfl
  · exact if_neg (show ¬ j = 16 + t * 6 + (P 10 i).toNatClampNeg by omega)
theorem setl_hi (hl : P 10 i = -2 ∨ ∃ k, P 10 i = nI k ∧ k < 6) (ht : t < 2) (hj : 28 ≤ j) : setl P N t i v j = N j := by
  unfold setl
  split
  · rfl
  · rename_i g
    rcases hl with hl | ⟨k, hl, hk⟩
    · rw [hl] at g; exact absurd (by decide) g
    · rw [hl, n_cl (by omega)]
      exact if_neg (by omega)
theorem ac_w (h : ¬ (ac0 P N t i).1 = 0) : (ac0 P N t i).2 = N := by
  unfold ac0 at h ⊢
  split
  · rename_i g; rw [if_pos g] at h; exact absurd rfl h
  rename_i g1; rw [if_neg g1] at h
  split
  · rename_i g; rw [if_pos g] at h
    split
    · rfl
    · rename_i g'; rw [if_neg g'] at h; exact absurd rfl h
  rename_i g2; rw [if_neg g2] at h
  split
  · rename_i g; rw [if_pos g] at h
    split
    · rfl
    · rename_i g'; rw [if_neg g'] at h; exact absurd rfl h
  rename_i g3; rw [if_neg g3] at h
  split
  · rfl
  rename_i g4; rw [if_neg g4] at h
  cases e5 : exv P 5 N i with
  | none => rfl
  | some v =>
    rw [e5] at h
    dsimp only at h ⊢
    split
    · rename_i g; rw [if_pos g] at h; exact absurd rfl h
    rename_i g5; rw [if_neg g5] at h
    split
    · rename_i g; rw [if_pos g] at h; exact absurd rfl h
    rename_i g6; rw [if_neg g6] at h
    split
    · rename_i g; rw [if_pos g] at h
      cases e7 : exv P 7 N i with
      | none => rfl
      | some u => rw [e7] at h; exact absurd rfl h
    rename_i g7; rw [if_neg g7] at h
    split
    · rename_i g; rw [if_pos g] at h
      split
      · rfl
      · rename_i g'; rw [if_neg g'] at h; exact absurd rfl h
    · rfl
theorem act_ac (ht : t < 2) (hk : okK (kd P i)) (h56 : N (56 + t) = 0) (ho : 1 ≤ kd P i → kd P i ≤ 4 → ob P i < 8) (ho2 : 5 ≤ kd P i → kd P i ≤ 6 → ob P i < 4) : (actS 0 P N t 0 2 i (ob P i) (kd P i)).1 = (ac0 P N t i).1 ∧ e56 (actS 0 P N t 0 2 i (ob P i) (kd P i)).2 (ac0 P N t i).2 ∧ (actS 0 P N t 0 2 i (ob P i) (kd P i)).2 t = N t := by
  by_cases k4 : kd P i ≤ 4
  · rw [act_4 N k4]
    by_cases k1 : kd P i = 1
    · have e : touS 0 P N t (ob P i) 0 i (kd P i) = ac0 P N t i := by
        unfold touS ac0
        rw [if_pos k1, if_pos k1]
        have e1 : ldb 0 P N t (ob P i) 0 = N (48 + ob P i) := by
          unfold ldb
          rw [if_neg (fun z => absurd z.1 (by decide)), h56]
          rfl
        rw [e1]
        rfl
      rw [e]
      refine ⟨rfl, e56.rf, ?_⟩
      unfold ac0
      rw [if_pos k1]
      exact setl_lo ht (by omega)
    have e : touS 0 P N t (ob P i) 0 i (kd P i) = ac0 P N t i := by
      unfold touS ac0
      rw [if_neg k1, if_neg k1, if_neg (show ¬ kd P i = 5 by omega), if_neg (show ¬ kd P i = 6 by omega), if_neg (show ¬ kd P i = 12 by omega)]
      cases e5 : exv P 5 N i with
      | none => rfl
      | some v =>
        dsimp only
        by_cases k0 : kd P i = 0
        · rw [if_pos k0, if_pos k0]
        rw [if_neg k0, if_neg k0]
        by_cases k2 : kd P i = 2
        · rw [if_pos k2, if_pos k2]
          have : sto 0 P N t (ob P i) v = upd N (48 + ob P i) v := by
            unfold sto
            rw [if_neg (fun z => absurd z.1 (by decide))]
            unfold wrt
            rw [if_neg (by decide)]
          rw [this]
        rw [if_neg k2, if_neg k2]
        by_cases k3 : kd P i = 3
        · rw [if_pos k3, if_pos k3]
          cases e7 : exv P 7 N i with
          | none => rfl
          | some u => rfl
        · rw [if_neg k3, if_neg k3, if_pos (show kd P i = 4 by omega)]
          rfl
    rw [e]
    refine ⟨rfl, e56.rf, ?_⟩
    unfold ac0
    rw [if_neg k1, if_neg (show ¬ kd P i = 5 by omega), if_neg (show ¬ kd P i = 6 by omega), if_neg (show ¬ kd P i = 12 by omega)]
    cases e5 : exv P 5 N i with
    | none => rfl
    | some v =>
      dsimp only
      split
      · exact setl_lo ht (by omega)
      split
      · rename_i k2; have := ho (by omega) k4; exact if_neg (show ¬ t = 48 + ob P i by omega)
      split
      · cases e7 : exv P 7 N i with
        | none => rfl
        | some u =>
          dsimp only
          split
          · exact (setl_lo ht (by omega)).trans (if_neg (show ¬ t = 48 + ob P i by omega))
          · exact setl_lo ht (by omega)
      · split
        · split
          · rfl
          · exact (setl_lo ht (by omega)).trans (if_neg (show ¬ t = 48 + ob P i by omega))
        · rfl
  by_cases k9 : kd P i ≤ 9
  · have hl := ho2 (by omega) (by omega)
    rw [act_9 N k4 k9]
    by_cases k5 : kd P i = 5
    · unfold lckS ac0
      rw [if_pos k5, if_neg (show ¬ kd P i = 1 by omega), if_pos k5]
      split
      · exact ⟨rfl, e56.rf, rfl⟩
      · refine ⟨rfl, lrn_e (by omega), ?_⟩
        show lrn _ t _ t = N t
        unfold lrn
        rw [pk_un (by omega), pk_un (by omega), pk_un (by omega)]
    · have k6 : kd P i = 6 := by omega
      unfold lckS ac0
      rw [if_neg k5, if_neg (show ¬ kd P i = 1 by omega), if_neg k5, if_pos k6]
      split
      · exact ⟨rfl, e56.rf, rfl⟩
      · unfold lev
        rw [pk_us]
        by_cases g : N (44 + ob P i) - 1 = 0
        · rw [if_pos g, if_pos g]
          refine ⟨rfl, fun j hj => ?_, ?_⟩
          · show upd (upd _ (228 + ob P i) _) (40 + ob P i) (-1) j = upd _ (40 + ob P i) (-1) j
            by_cases q : j = 40 + ob P i
            · rw [q, pk_us, pk_us]
            · rw [pk_un q, pk_un q, pk_un (by omega)]
          · show upd (upd (upd N (44 + ob P i) _) (228 + ob P i) _) (40 + ob P i) (-1) t = N t
            rw [pk_un (by omega), pk_un (by omega), pk_un (by omega)]
        · rw [if_neg g, if_neg g]
          refine ⟨rfl, fun j hj => ?_, ?_⟩
          · show upd (upd N (44 + ob P i) _) (228 + ob P i) _ j = upd N (44 + ob P i) _ j
            rw [pk_un (by omega)]
          · show upd (upd N (44 + ob P i) _) (228 + ob P i) _ t = N t
            rw [pk_un (by omega), pk_un (by omega)]
  by_cases k13 : kd P i ≤ 13
  · have k12 : kd P i = 12 := by omega
    rw [act_13 N k4 k9 k13]
    unfold metS ac0
    rw [if_neg (show ¬ kd P i = 10 by omega), if_neg (show ¬ kd P i = 11 by omega), if_pos k12, if_neg (show ¬ kd P i = 1 by omega), if_neg (show ¬ kd P i = 5 by omega), if_neg (show ¬ kd P i = 6 by omega), if_pos k12]
    refine ⟨rfl, fun j hj => ?_, ?_⟩
    · show upd (lrn N t _) 232 _ j = N j
      rw [pk_un (by omega)]
      exact lrn_e (by omega) j hj
    · show upd (lrn N t _) 232 _ t = N t
      rw [pk_un (by omega)]
      exact lrn_e (by omega) t (by omega)
  rw [act_18 N k4 k9 k13]
  unfold ac0 telS
  rw [if_neg (show ¬ kd P i = 1 by omega), if_neg (show ¬ kd P i = 5 by omega), if_neg (show ¬ kd P i = 6 by omega), if_neg (show ¬ kd P i = 12 by omega)]
  cases e5 : exv P 5 N i with
  | none => exact ⟨rfl, e56.rf, rfl⟩
  | some v =>
    dsimp only
    rw [if_neg (show ¬ kd P i = 0 by omega), if_neg (show ¬ kd P i = 2 by omega), if_neg (show ¬ kd P i = 3 by omega), if_neg (show ¬ kd P i = 4 by omega)]
    exact ⟨rfl, e56.rf, rfl⟩
theorem stp_0 (hG : GP P nc nl n) (hS : SV P 0 nc nl 2 n N) (ht : t < 2) (h1 : N t = 1) : e56 (stp P 0 N t 0 2) (st0 P t N) := by
  obtain ⟨hi, -, -⟩ := run_ln hG.1 hS ht h1
  obtain ⟨-, g2, g3, g4⟩ := gp_ln hG hi
  obtain ⟨a1, a2, a3⟩ := act_ac (i := clp (N (4 + t))) (N := N) ht g4 (sv_56 hS (56 + t) (by omega) (by omega)) g2 g3
  have e : stp P 0 N t 0 2 = linS 0 P N t 0 2 (clp (N (4 + t))) (ob P (clp (N (4 + t)))) (kd P (clp (N (4 + t)))) := by
    unfold stp
    rw [if_neg (by decide), if_neg (fun z => by rw [h1] at z; exact n3_1 z)]
  rw [e]
  unfold linS st0
  rw [a1, a3, h1]
  by_cases g : (ac0 P N t (clp (N (4 + t)))).1 = 0
  · rw [if_neg (not_not_intro g), if_neg (not_not_intro g), if_pos rfl]
    exact gto_e a2
  · rw [if_pos g, if_pos g]
    rw [ac_w g] at a2
    exact wrg_e a2
/-- an abstract step keeps a state valid: it is told by the one of the class -/
theorem st0_w (hG : GP P nc nl n) (hS : SV P 0 nc nl 2 n N) (ht : t < 2) (hr : rd0 P t N) : SV P 0 nc nl 2 n (stp P 0 N t 0 2) := SV_stp hG.1 hS (by decide) ((rdS_0 hG hS ht).mpr ⟨rfl, hr⟩) (by decide)
end S1
