/-! AN EMPTY TEXT READ AS A PROGRAM, by both. -/
section EMP
variable {en : pN} {d : Nat} {σ : qS}
theorem e_byteAt {i : Int32} (h : σ.1 1 5 ≤ i) : qev en (d + 1) 168 [.ref 1, .int i] σ = some (some (.int (-1)), σ) := le_X9_byteAt en d i σ _ (if_pos h)
theorem e_skip (h : σ.1 1 5 ≤ σ.1 1 7) : qev en (d + 1) 171 [.ref 1] σ = some (none, σ) := le_X9_skipBlanks en d σ _ (le_X9_skipBlanks_2 en d 0 σ _ (if_pos h))
theorem e_cutOne (h : σ.1 1 5 ≤ σ.1 1 7) : qev en (d + 2) 172 [.ref 1] σ = some (none, uI σ 1 9 0) := by
  refine le_X9_cutOne en (d + 1) σ _ ?_
  rw [e_byteAt h, bI_some, if_neg (by decide)]
  rfl
theorem e_adv (h6 : σ.1 1 6 = 1) (h8 : σ.1 1 8 = -1) : qev en (d + 1) 167 [.ref 1] σ = some (none, uJ (uI (uI (uI σ 1 8 0) 1 9 (σ.1 4 0)) 1 10 (σ.1 5 0)) 1 11 (σ.2.1 6 0)) := by
  refine le_X9_advance en d σ _ ?_
  rw [h6, h8, if_neg (by decide), nm_eq, show (-1 : Int32) + 1 = 0 by decide]
  refine le_X9_advance_23 en d _ _ ?_
  rfl
theorem e_cut115 (h6 : σ.1 1 6 = 1) (h4 : σ.1 4 0 = 0) : ∃ τ : qS, L_X9_cut_115 en (d + 1) σ = some (none, τ) ∧ τ.1 1 9 = 0 ∧ ∀ b : Nat, b ≠ 1 → τ.1 b = σ.1 b := by
  refine ⟨_, le_X9_cut_115 en (d + 1) σ _ ((congrArg (fun o => bV o (fun s3 => some (none, s3))) (e_adv (σ := uI σ 1 8 (-1)) h6 rfl)).trans rfl), h4, fun b hb => ?_⟩
  show (uI (uI (uI (uI σ 1 8 (-1)) 1 8 0) 1 9 _) 1 10 _).1 b = _
  rw [uI_ne hb, uI_ne hb, uI_ne hb, uI_ne hb]
theorem e_cut17b (h9 : σ.1 1 9 = 0) (h6 : σ.1 1 6 = 1) (h4 : σ.1 4 0 = 0) : ∃ τ : qS, L_X9_cut_17 en (d + 1) 1 σ = some (none, τ) ∧ τ.1 1 9 = 0 ∧ ∀ b : Nat, b ≠ 1 → τ.1 b = σ.1 b := by
  obtain ⟨τ, h1, h2⟩ := e_cut115 (en := en) (d := d) h6 h4
  refine ⟨τ, le_X9_cut_17 en (d + 1) 1 σ _ ?_, h2⟩
  rw [if_neg (by decide), if_pos h9]
  exact h1
theorem e_cut17a (h5 : σ.1 1 5 = 0) (h7 : σ.1 1 7 = 0) (h9 : σ.1 1 9 = 2) (h6 : σ.1 1 6 = 0) : ∃ τ : qS, L_X9_cut_17 en (d + 2) 0 σ = some (none, τ) ∧ τ.1 1 9 = 0 ∧ ∀ b : Nat, b ≠ 1 → b ≠ 4 → b ≠ 5 → τ.1 b = σ.1 b := by
  have hle : σ.1 1 5 ≤ σ.1 1 7 := by rw [h5, h7]; decide
  obtain ⟨ρ, hρ⟩ : ∃ ρ : qS, ρ = uJ (uI σ 1 10 (σ.1 1 7)) 1 11 0 := ⟨_, rfl⟩
  have r5 : ρ.1 1 5 = 0 := by rw [hρ]; exact h5
  have r7 : ρ.1 1 7 = 0 := by rw [hρ]; exact h7
  have r6 : ρ.1 1 6 = 0 := by rw [hρ]; exact h6
  have rb : ∀ b : Nat, b ≠ 1 → ρ.1 b = σ.1 b := fun b hb => by rw [hρ]; exact uI_ne hb
  have hco := e_cutOne (en := en) (d := d) (σ := ρ) (by rw [r5, r7]; decide)
  obtain ⟨τ, h1, h2, h3⟩ := e_cut17b (en := en) (d := d + 1) (σ := uI (uJ (uI (uI (uI ρ 1 9 0) 4 0 0) 5 0 (ρ.1 1 10)) 6 0 (ρ.2.1 1 11)) 1 6 1) rfl rfl rfl
  refine ⟨τ, le_X9_cut_17 en (d + 2) 0 σ _ ?_, h2, fun b hb h4 h5 => ?_⟩
  · rw [if_neg (by decide), if_neg (by rw [h9]; decide), if_neg (by rw [h9]; decide), e_skip hle, bV_some, nm_eq, nm_eq, ← hρ, hco, bV_some]
    have e6 : (uI ρ 1 9 0).1 1 6 = 0 := r6
    rw [e6, gd_true (by decide), nm_eq]
    have e6 : (uI (uI ρ 1 9 0) 4 (0 : Int32).toNatClampNeg ((uI ρ 1 9 0).1 1 9)).1 1 6 = 0 := r6
    rw [e6, gd_true (by decide), nm_eq]
    have e6 : (uI (uI (uI ρ 1 9 0) 4 (0 : Int32).toNatClampNeg ((uI ρ 1 9 0).1 1 9)) 5 (0 : Int32).toNatClampNeg ((uI (uI ρ 1 9 0) 4 (0 : Int32).toNatClampNeg ((uI ρ 1 9 0).1 1 9)).1 1 10)).1 1 6 = 0 := r6
    rw [e6, gd_true (by decide), nm_eq, nm_eq]
    have e7 : (uJ (uI (uI (uI ρ 1 9 0) 4 (0 : Int32).toNatClampNeg ((uI ρ 1 9 0).1 1 9)) 5 (0 : Int32).toNatClampNeg ((uI (uI ρ 1 9 0) 4 (0 : Int32).toNatClampNeg ((uI ρ 1 9 0).1 1 9)).1 1 10)) 6 (0 : Int32).toNatClampNeg ((uI (uI (uI ρ 1 9 0) 4 (0 : Int32).toNatClampNeg ((uI ρ 1 9 0).1 1 9)) 5 (0 : Int32).toNatClampNeg ((uI (uI ρ 1 9 0) 4 (0 : Int32).toNatClampNeg ((uI ρ 1 9 0).1 1 9)).1 1 10)).2.1 1 11)).1 1 6 + (1 : Int32) = 1 := by
      show ρ.1 1 6 + 1 = 1
      rw [r6]
      decide
    rw [e7]
    exact h1
  · rw [h3 b hb, uI_ne hb]
    show (uI (uI (uI ρ 1 9 0) 4 0 0) 5 0 _).1 b = _
    rw [uI_ne h5, uI_ne h4, uI_ne hb, rb b hb]
theorem e_cut (h : σ.1 1 5 = 0) : ∃ τ : qS, qev en (d + 3) 166 [.ref 1] σ = some (none, τ) ∧ τ.1 1 9 = 0 ∧ ∀ b : Nat, b ≠ 1 → b ≠ 4 → b ≠ 5 → τ.1 b = σ.1 b := by
  obtain ⟨τ, h1, h2, h3⟩ := e_cut17a (en := en) (d := d) (σ := uI (uI (uI σ 1 6 0) 1 7 0) 1 9 2) h rfl rfl rfl
  refine ⟨τ, le_X9_cut en (d + 2) σ _ h1, h2, fun b hb h4 h5 => ?_⟩
  rw [h3 b hb h4 h5, uI_ne hb, uI_ne hb, uI_ne hb]
theorem e_open (h : σ.1 1 5 = 0) : ∃ τ : qS, qev en (d + 4) 113 [.ref 65, .ref 7, .int 0] σ = some (none, τ) ∧ τ.1 1 9 = 0 ∧ τ.1 65 11 = 0 ∧ τ.1 11 = σ.1 11 := by
  obtain ⟨τ, h1, h2, h3⟩ := e_cut (en := en) (d := d) (σ := uI (uI (uI (uI (uI (uR σ 65 7 8) 7 3 0) 65 8 0) 65 11 0) 65 12 (-2)) 65 13 0) h
  refine ⟨τ, le_X6_open en (d + 3) 7 0 σ _ ?_, h2, ?_, ?_⟩
  · rw [gd_true lc_7, nm_eq, gd_true (show ((uR σ 65 7 (7 + 1)).2.2 65 7 ≠ 0 ∧ lc ((uR σ 65 7 (7 + 1)).2.2 65 7 - 1) = 4) from ⟨(by decide : (8 : Nat) ≠ 0), lc_7⟩), nm_eq, nm_eq, gd_true (by decide), nm_eq, nm_eq, nm_eq, nm_eq]
    exact (congrArg (fun o => bV o (fun s11 => some (none, s11))) h1).trans rfl
  · rw [h3 65 (by decide) (by decide) (by decide)]
    rfl
  · rw [h3 11 (by decide) (by decide) (by decide)]
    rfl
theorem e_clear : ∃ τ : qS, qev en (d + 2) 81 [.ref 11] σ = some (none, τ) ∧ τ.1 11 12 = 0 ∧ τ.1 1 = σ.1 1 := by
  refine ⟨?t, le_X5_clear en (d + 1) 11 σ _ ?h, ?a, ?b⟩
  case h =>
    rw [gd_true lc_11, c_fillJ (a := 11 + 1) lc_12 (by rw [show ln (11 + 1) = 16 from ln_12]; decide), bV_some, c_fillI (a := 11 + 3) lc_14 (by rw [show ln (11 + 3) = 4 from ln_14]; decide), bV_some]
    rfl
  case a => rfl
  case b => rfl
theorem e_aim (h : σ.1 11 12 = 0) : qev en (d + 1) 132 [.ref 65] σ = some (none, σ) := le_X6_aimThreads en d σ _ (le_X6_aimThreads_2 en d 0 σ _ (if_pos (by rw [h]; decide)))
theorem e_lay (h : σ.1 11 12 = 0) : qev en (d + 1) 101 [.ref 11] σ = some (none, σ) := le_X5_layWays en d 11 σ _ ((gd_true lc_11).trans (le_X5_layWays_2 en d 11 0 σ _ ((gd_true lc_11).trans (if_pos (by rw [h]; decide)))))
theorem e_readProgram (h : σ.1 1 5 = 0) : ∃ τ : qS, qev en (d + 5) 117 [.ref 65] σ = some (none, τ) ∧ τ.1 65 11 = 0 := by
  obtain ⟨ρ, a1, a2, a3⟩ := e_clear (en := en) (d := d + 2) (σ := σ)
  obtain ⟨τ, b1, b2, b3, b4⟩ := e_open (en := en) (d := d) (σ := ρ) (by rw [a3]; exact h)
  refine ⟨uI τ 11 13 (τ.1 65 13), le_X6_readProgram en (d + 4) σ _ ?_, b3⟩
  rw [a1, bV_some, b1, bV_some]
  refine le_X6_readProgram_21 en (d + 4) 0 τ _ ?_
  rw [if_neg (by decide), if_pos b2]
  refine le_X6_readProgram_100 en (d + 4) τ _ ?_
  have c12 : (uI τ 11 13 (τ.1 65 13)).1 11 12 = 0 := by
    show τ.1 11 12 = 0
    rw [b4]
    exact a2
  rw [nm_eq, e_aim c12, bV_some, if_neg (fun z => z b3), e_lay c12, bV_some]
theorem e_programX (h : σ.1 1 5 = 0) : ∃ τ : qS, qev en (d + 6) 204 [.ref 0] σ = some (some (.int 0), τ) := by
  obtain ⟨τ, a1, a2⟩ := e_readProgram (en := en) (d := d) (σ := uI (uI (uI (uI (uI σ 70 17 0) 111 4 0) 0 10 0) 0 13 (-2)) 0 14 (-2)) h
  refine ⟨uI (uI τ 1 5 0) 0 9 1, le_X11_program en (d + 5) σ _ ?_⟩
  rw [nm_eq, nm_eq, nm_eq, nm_eq, nm_eq, a1, bV_some, nm_eq, if_neg (fun z => z a2)]
  refine le_X11_program_64 en (d + 5) 1 _ _ ?_
  rw [gd_true (by decide), nm_eq]
  show some (some (Value.int (τ.1 65 11)), _) = _
  rw [a2]
theorem e_next (h7 : σ.1 151 7 = 0) (h1 : σ.1 151 1 = σ.1 151 2) : qev en (d + 2) 249 [.ref 151] σ = some (none, uI (uI σ 151 4 (σ.1 151 2)) 151 3 0) := by
  refine le_X12_next en (d + 1) σ _ ?_
  rw [show qev en (d + 1) 243 [.ref 151] σ = some (some (.int 1), σ) from le_X12_good en d σ _ (if_neg (fun z => z h7)), bI_some, if_pos (by decide)]
  refine le_X12_next_10 en (d + 1) 1 σ _ ?_
  rw [if_pos (by rw [h1]; exact Int32.le_refl _)]
  refine le_X12_next_136 en (d + 1) σ _ ?_
  rw [nm_eq, nm_eq]
  refine if_neg (fun z => z ?_)
  exact h1.symm
theorem e_programM (h : σ.1 151 1 = 0) : ∃ τ : qS, qev en (d + 5) 289 [.ref 151] σ = some (some (.int 0), τ) := by
  obtain ⟨ρ, hρ⟩ : ∃ ρ : qS, ρ = uI (uI (uI (uI (uI (uI (uI (uI (uI (uI (uI (uI (uI σ 151 11 0) 151 98 0) 151 74 0) 151 147 0) 151 12 0) 151 16 0) 151 18 0) 151 32 0) 151 25 0) 151 28 0) 151 29 0) 151 150 (-2)) 151 131 (-2) := ⟨_, rfl⟩
  have r1 : ρ.1 151 1 = 0 := by rw [hρ]; exact h
  have r32 : ρ.1 151 32 = 0 := by rw [hρ]; rfl
  obtain ⟨μ, hμ⟩ : ∃ μ : qS, μ = uI (uI (uI (uI (uI ρ 151 2 0) 151 7 0) 151 8 (-2)) 151 4 0) 151 3 0 := ⟨_, rfl⟩
  have hb : qev en (d + 4) 250 [.ref 151] ρ = some (none, μ) := by
    refine le_X12_beginReading en (d + 3) ρ _ ?_
    rw [nm_eq, nm_eq, nm_eq, e_next (σ := uI (uI (uI ρ 151 2 0) 151 7 0) 151 8 (-2)) rfl r1, bV_some, hμ]
    rfl
  have m7 : μ.1 151 7 = 0 := by rw [hμ]; rfl
  have m3 : μ.1 151 3 = 0 := by rw [hμ]; rfl
  have m32 : μ.1 151 32 = 0 := by rw [hμ]; exact r32
  have hg : ∀ (ν : qS) (e : Nat), ν.1 151 7 = 0 → qev en (e + 1) 243 [.ref 151] ν = some (some (.int 1), ν) := fun ν e hν => le_X12_good en e ν _ (if_neg (fun z => z hν))
  obtain ⟨κ, hκ⟩ : ∃ κ : qS, κ = uI (uI (uI μ 151 1 0) 151 9 (μ.1 151 7)) 151 10 (-2) := ⟨_, rfl⟩
  have he : qev en (d + 4) 251 [.ref 151] μ = some (none, κ) := by
    refine le_X12_endReading en (d + 3) μ _ ?_
    rw [nm_eq, nm_eq]
    refine (if_neg (fun z => z ?_)).trans ?_
    · refine le_X12_endReading_30 en (d + 3) (-2) _ _ ?_
      rw [nm_eq, hκ]
      rfl
    · exact m7
  have k7 : κ.1 151 7 = 0 := by rw [hκ]; exact m7
  have k32 : κ.1 151 32 = 0 := by rw [hκ]; exact m32
  have k9 : κ.1 151 9 = 0 := by rw [hκ]; exact m7
  refine ⟨uI (uI κ 151 11 1) 151 27 (κ.1 151 25), le_X12_program en (d + 4) σ _ ?_⟩
  simp only [nm_eq]
  rw [← hρ, hb, bV_some]
  refine le_X12_program_71 en (d + 4) μ _ ?_
  rw [hg μ (d + 3) m7, bI_some, if_neg (by decide), if_pos m3]
  refine le_X12_program_205 en (d + 4) 0 μ _ ?_
  rw [if_pos (by rw [m32]; decide)]
  refine le_X12_program_285 en (d + 4) μ _ ?_
  rw [he, bV_some, hg κ (d + 3) k7, bI_some, gd_true (by decide), nm_eq, nm_eq, if_neg (show ¬ (uI (uI κ 151 11 1) 151 27 ((uI κ 151 11 1).1 151 25)).1 151 11 = (0 : Int32) from (by decide : ¬ (1 : Int32) = 0))]
  have hl : qev en (d + 4) 292 [.ref 151, .int 0] (uI (uI κ 151 11 1) 151 27 (κ.1 151 25)) = some (none, uI (uI κ 151 11 1) 151 27 (κ.1 151 25)) := by
    refine le_X12_layFlow en (d + 3) 0 _ _ ?_
    refine le_X12_layFlow_7 en (d + 3) _ _ _ _ ?_
    refine if_pos ?_
    show (100 : Int32) * 0 + κ.1 151 32 ≤ 100 * 0
    rw [k32]
    decide
  have hl2 : (uI κ 151 11 1).1 151 25 = κ.1 151 25 := rfl
  rw [hl2, hl, bV_some]
  refine le_X12_program_317 en (d + 4) _ _ ?_
  show some (some (Value.int (κ.1 151 9)), _) = _
  rw [k9]
end EMP
