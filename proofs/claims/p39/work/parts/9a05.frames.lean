/-! FRAMES of what a step does to the row. -/
section FRM
variable {t i n w a c l u ch nc nl nt k o j : Nat} {v x z : Int32} {N : fI} {P : Nat → fI}
theorem fr_setl (h : j < 16) : setl P N t i v j = N j := by
  unfold setl
  split
  · rfl
  · exact pk_un (by omega)
theorem fr_setl2 (hl : P 10 i = -2 ∨ ∃ k, P 10 i = nI k ∧ k < 6) (ht : t < 4) (h : 40 ≤ j) : setl P N t i v j = N j := by
  unfold setl
  rcases hl with hl | ⟨k, hl, hk⟩
  · rw [hl, if_pos (of_eq_true w_20)]
  · rw [hl, if_neg (nI_pos (by omega)), n_cl (by omega)]
    exact pk_un (by omega)
theorem fr_lok (h : j < 224) : lok w P N t c ch j = N j := by
  unfold lok lrn vew
  split
  · split <;> exact pk_un (by omega)
  · rfl
theorem fr_lal (h : j < 224) : lal w N t c j = N j := by
  unfold lal lrn vew
  split
  · rw [pk_un (by omega), pk_un (by omega)]
  · rfl
theorem fr_wrt {tel : Bool} (h : j < 48) : wrt w N t c v tel j = N j := by
  unfold wrt wr1 vew
  split
  · rw [pk_un (by omega), pk_un (by omega), pk_un (by omega), pk_un (by omega), pk_un (by omega)]
  · exact pk_un (by omega)
theorem fr_sto (h : j < 48) : sto w P N t c v j = N j := by
  unfold sto
  split
  · rw [pk_un (by omega), pk_un (by omega)]
  · exact fr_wrt h
theorem fr_lev (h : j < 40) : lev N t l j = N j := by
  unfold lev
  split
  · rw [pk_un (by omega), pk_un (by omega)]
  · exact pk_un (by omega)
theorem fr_gto (h : j ≠ t) (h2 : j ≠ 4 + t) : gto N t x j = N j := by
  unfold gto
  rw [pk_un h, pk_un h2]
theorem fr_tou (h : j < 16) : (touS w P N t c ch i k).2 j = N j := by
  unfold touS
  split
  · exact (fr_lok (by omega)).trans (fr_setl h)
  · split
    · rfl
    · split
      · exact fr_setl h
      · split
        · exact fr_sto (by omega)
        · split
          · split
            · rfl
            · show swp _ _ _ _ _ _ _ _ j = _
              unfold swp
              split
              · exact (fr_setl h).trans ((fr_wrt (by omega)).trans (fr_lal (by omega)))
              · exact (fr_setl h).trans (fr_lal (by omega))
          · unfold add2
            split
            · rfl
            · exact (fr_setl h).trans ((fr_wrt (by omega)).trans (fr_lal (by omega)))
theorem fr_lck (h4 : 4 ≤ j) (h : j < 12) (ht : t < 4) (hnt : nt ≤ 4) : (lckS P N t l ch k nt).2 j = N j := by
  unfold lckS
  split
  · split
    · rfl
    · show lrn _ _ _ j = _
      unfold lrn
      rw [pk_un (by omega), pk_un (by omega), pk_un (by omega)]
  · split
    · rfl
    · split
      · exact (fr_lev (by omega)).trans (pk_un (by omega))
      · split
        · refine (fr_lev (by omega)).trans ?_
          rw [pk_un (by omega), pk_un (by omega), pk_un (by omega)]
        · exact wak_o _ _ (by omega)
theorem fr_met (h8 : 8 ≤ j) (h : j < 12) (hu : u < 4) : (metS P N t u k).2 j = N j := by
  unfold metS
  split
  · split
    · rfl
    · show upd _ _ _ j = _
      rw [pk_un (by omega)]
      exact fr_gto (by omega) (by omega)
  · split
    · exact pk_un (by omega)
    · split
      · show upd _ _ _ j = _
        rw [pk_un (by omega)]
        exact pk_un (by omega)
      · rfl
theorem fr_act (h8 : 8 ≤ j) (h : j < 12) (ht : t < 4) (hnt : nt ≤ 4) (ho : k = 10 → o < 4) : (actS w P N t ch nt i o k).2 j = N j := by
  unfold actS
  split
  · exact fr_tou (by omega)
  · split
    · exact fr_lck (by omega) h ht hnt
    · split
      · by_cases h10 : k = 10
        · exact fr_met h8 h (ho h10)
        · unfold metS
          rw [if_neg h10]
          split
          · exact pk_un (by omega)
          · split
            · show upd _ _ _ j = _
              rw [pk_un (by omega)]
              exact pk_un (by omega)
            · rfl
      · rfl
theorem fr_tkb (h8 : 8 ≤ j) (h : j < 12) (ht : t < 4) : tkb N t l x j = N j := by
  unfold tkb lrn
  rw [fr_gto (by omega) (by omega), pk_un (by omega), pk_un (by omega), pk_un (by omega), pk_un (by omega)]
theorem fr_flu (h8 : 8 ≤ j) (h : j < 12) : flu N t c v j = N j := by
  unfold flu
  rw [pk_un (by omega), pk_un (by omega), pk_un (by omega), pk_un (by omega), pk_un (by omega)]
/-- why threads went wrong, in the model's row of its own -/
theorem y_lin {y y' : fI} (hy : ∀ u, u < nt → y u = N (8 + u)) (ht : t < 4) (hnt : nt ≤ 4) (ho : k = 10 → o < 4) (h : y' = if ¬ (actS w P N t ch nt i o k).1 = 0 then upd y t (actS w P N t ch nt i o k).1 else y) : ∀ u, u < nt → y' u = linS w P N t ch nt i o k (8 + u) := by
  intro u hu
  have hf := @fr_act t i w ch nt k o (8 + u) N P (by omega) (by omega) ht hnt ho
  unfold linS
  by_cases h0 : (actS w P N t ch nt i o k).1 = 0
  · rw [if_neg (not_not_intro h0)] at h
    rw [h, hy u hu, if_neg (not_not_intro h0)]
    split
    · rw [fr_gto (by omega) (by omega), hf]
    · exact hf.symm
  · rw [if_pos h0] at h
    rw [h, if_pos h0]
    unfold wrg
    by_cases hut : u = t
    · rw [hut, pk_us, pk_us]
    · rw [pk_un hut, pk_un (by omega), pk_un (by omega), pk_un (by omega), hf, hy u hu]
end FRM

