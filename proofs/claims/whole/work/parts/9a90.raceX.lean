/-! ALL TURNS, both sides: races. -/
section RA
variable {en : pN} {d d' w nc nl nt n p : Nat} {P : Nat → fI} {τ σ : qS} {X : xT} {fw : Bool} {a q : Int32}
theorem raceX_alike (hx : EXx P w nc nl nt n p fw X τ) (hm : EXm P w nc nl nt n fw X σ) : ∃ r : Int32, qev en (d + 2) 228 [.ref 0, .int a, .int q] τ = some (some (.int r), τ) ∧ qev en (d' + 1) 381 [.ref 151, .int a, .int q] σ = some (some (.int r), σ) := by
  obtain ⟨ρ, F, N, G, b, eτ, ⟨⟨-, ⟨-, -, -, -, y5, y6, -, -⟩, -, -⟩, -, z2⟩, -, -⟩ := hx
  obtain ⟨ρ', F', s', y', g', D', eσ, -, ⟨-, -, -, -, n5, -, -⟩, -, k98, -⟩ := hm
  have e77 : τ.1 77 = ρ.1 77 := by rw [eτ]; exact mS_o (by decide) (by decide) (by decide) (by decide)
  have e76 : τ.1 76 = ρ.1 76 := by rw [eτ]; exact mS_o (by decide) (by decide) (by decide) (by decide)
  have e17 : τ.1 70 17 = 1 := by rw [eτ, mS_o (by decide) (by decide) (by decide) (by decide)]; exact z2
  have e223 : σ.1 223 = ρ'.1 223 := by rw [eσ]; exact mM_o (by decide) (by decide) (by decide) (by decide)
  have e98 : σ.1 151 98 = 1 := by rw [eσ, mM_F]; exact k98
  -- a place: no race, or one
  have one : ∀ z, z < 10000 → (τ.1 77 z = -1 ∧ σ.1 223 z = -2) ∨ ∃ i, i < 20000 ∧ τ.1 77 z = nI i ∧ σ.1 223 z = nI i := fun z hz => by
    rw [e77, e223, n5 z hz]
    rcases y5 z hz with ⟨h1, h2⟩ | ⟨i, h0, h1, h2⟩
    · left; rw [h1]; exact ⟨h2, rfl⟩
    · right; rw [h1]; exact ⟨i, h0, h2, rfl⟩
  have loop : ∀ (c m z v : Nat), c < 2 ^ 31 → z + m = 10000 → v ≤ z → ∃ r : Int32, L_X0_findRace_14 en d (nI c) q (nI v) (nI z) τ = some (some (.int r), τ) ∧ L_X12_race_28 en d' (nI c) q (nI v) (nI z) σ = some (some (.int r), σ) := by
    intro c m
    induction m with
    | zero =>
      intro z v hc hz hv
      obtain rfl : z = 10000 := by omega
      refine ⟨-1, le_X0_findRace_14 en _ _ _ _ _ _ _ ?_, le_X12_race_28 en _ _ _ _ _ _ _ ?_⟩
      · rw [if_pos (show (10000 : Int32) ≤ nI 10000 from Int32.le_refl _)]
      · rw [if_pos (show (10000 : Int32) ≤ nI 10000 from Int32.le_refl _), if_pos (show ¬ nI c = (-1 : Int32) from fun y => nI_pos hc (by rw [y]; decide))]
    | succ m ih =>
      intro z v hc hz hv
      have hge : ¬ (10000 : Int32) ≤ nI z := by rw [show (10000 : Int32) = nI 10000 from rfl, n_LE (by omega) (by omega)]; omega
      rcases one z (by omega) with ⟨h1, h2⟩ | ⟨i, hi, h1, h2⟩
      · obtain ⟨r, r1, r2⟩ := ih (z + 1) v hc (by omega) (by omega)
        refine ⟨r, le_X0_findRace_14 en _ _ _ _ _ _ _ ?_, le_X12_race_28 en _ _ _ _ _ _ _ ?_⟩
        · rw [if_neg hge, gd_true (n_in (by omega) (by decide)), n_cl (by omega), h1, if_pos (by decide), n_ar]; exact r1
        · rw [if_neg hge, gd_true (n_in (by omega) (by decide)), n_cl (by omega), h2, if_pos rfl, n_ar]; exact r2
      · have p1 : ¬ nI i < 0 := nI_pos (by omega)
        have p2 : ¬ nI i = (-2 : Int32) := fun y => p1 (by rw [y]; decide)
        by_cases hvc : v = c
        · refine ⟨if ¬ q = 0 then if ¬ q = 1 then nI i else nI z - nI z / (100 : Int32) * (100 : Int32) else nI z / (100 : Int32), le_X0_findRace_14 en _ _ _ _ _ _ _ ?_, le_X12_race_28 en _ _ _ _ _ _ _ ?_⟩
          · rw [if_neg hge, gd_true (n_in (by omega) (by decide)), n_cl (by omega), h1, if_neg p1, if_neg (show ¬ ¬ nI v = nI c from fun y => y (by rw [hvc]))]
            repeat (split <;> try rfl)
          · rw [if_neg hge, gd_true (n_in (by omega) (by decide)), n_cl (by omega), h2, if_neg p2, if_neg (show ¬ ¬ nI v = nI c from fun y => y (by rw [hvc]))]
            repeat (split <;> try rfl)
        · have hvc' : ¬ nI v = nI c := by rw [n_EQ (by omega) hc]; exact hvc
          obtain ⟨r, r1, r2⟩ := ih (z + 1) (v + 1) hc (by omega) (by omega)
          refine ⟨r, le_X0_findRace_14 en _ _ _ _ _ _ _ ?_, le_X12_race_28 en _ _ _ _ _ _ _ ?_⟩
          · rw [if_neg hge, gd_true (n_in (by omega) (by decide)), n_cl (by omega), h1, if_neg p1, if_pos hvc', n_ar, n_ar]; exact r1
          · rw [if_neg hge, gd_true (n_in (by omega) (by decide)), n_cl (by omega), h2, if_neg p2, if_pos hvc', n_ar, n_ar]; exact r2
  have count : ∀ (m z : Nat), z + m = 10000 → L_X12_race_28 en d' (-1) q (nI (cntP (τ.1 77) z)) (nI z) σ = some (some (.int (nI (cntP (τ.1 77) 10000))), σ) := by
    intro m
    induction m with
    | zero =>
      intro z hz
      obtain rfl : z = 10000 := by omega
      refine le_X12_race_28 en _ _ _ _ _ _ _ ?_
      rw [if_pos (show (10000 : Int32) ≤ nI 10000 from Int32.le_refl _), if_neg (fun y => y rfl)]
    | succ m ih =>
      intro z hz
      have hge : ¬ (10000 : Int32) ≤ nI z := by rw [show (10000 : Int32) = nI 10000 from rfl, n_LE (by omega) (by omega)]; omega
      have h := ih (z + 1) (by omega)
      have ec : cntP (τ.1 77) (z + 1) = cntP (τ.1 77) z + if τ.1 77 z < 0 then 0 else 1 := rfl
      have hcl := cntP_le (T := τ.1 77) z
      rw [ec] at h
      refine le_X12_race_28 en _ _ _ _ _ _ _ ?_
      rcases one z (by omega) with ⟨h1, h2⟩ | ⟨i, hi, h1, h2⟩
      · rw [h1, if_pos (by decide), Nat.add_zero] at h
        rw [if_neg hge, gd_true (n_in (by omega) (by decide)), n_cl (by omega), h2, if_pos rfl, n_ar]; exact h
      · have p1 : ¬ nI i < 0 := nI_pos (by omega)
        have p2 : ¬ nI i = (-2 : Int32) := fun y => p1 (by rw [y]; decide)
        rw [h1, if_neg p1] at h
        rw [if_neg hge, gd_true (n_in (by omega) (by decide)), n_cl (by omega), h2, if_neg p2, if_pos (show ¬ nI (cntP (τ.1 77) z) = (-1 : Int32) from fun y => nI_pos (show cntP (τ.1 77) z < 2 ^ 31 by omega) (by rw [y]; decide)), n_ar, n_ar]; exact h
  have sx : ∀ (r : Int32), (if a < (-1 : Int32) then some (some (Value.int (-1)), τ) else if q < (0 : Int32) then some (some (Value.int (-1)), τ) else if q ≤ (2 : Int32) then bI (qev en (d + 1) 4 [.ref 76, .int a, .int q] τ) (fun w5 s6 => some (some (.int w5), s6)) else some (some (Value.int (-1)), τ)) = some (some (.int r), τ) → qev en (d + 2) 228 [.ref 0, .int a, .int q] τ = some (some (.int r), τ) := fun r hh => by
    refine le_X11_race en _ _ _ _ _ ?_
    rw [e17, if_neg (by decide)]
    exact hh
  have sm : ∀ (r : Int32), (if a < (-1 : Int32) then some (some (Value.int (-1)), σ) else if q < (0 : Int32) then some (some (Value.int (-1)), σ) else if q ≤ (2 : Int32) then L_X12_race_28 en d' a q (0 : Int32) (0 : Int32) σ else some (some (Value.int (-1)), σ)) = some (some (.int r), σ) → qev en (d' + 1) 381 [.ref 151, .int a, .int q] σ = some (some (.int r), σ) := fun r hh => by
    refine le_X12_race en _ _ _ _ _ ?_
    rw [e98, if_neg (by decide)]
    exact hh
  by_cases h1 : a < -1
  · exact ⟨-1, sx _ (by rw [if_pos h1]), sm _ (by rw [if_pos h1])⟩
  by_cases h2 : q < 0
  · exact ⟨-1, sx _ (by rw [if_neg h1, if_pos h2]), sm _ (by rw [if_neg h1, if_pos h2])⟩
  by_cases h3 : q ≤ 2
  rotate_left
  · exact ⟨-1, sx _ (by rw [if_neg h1, if_neg h2, if_neg h3]), sm _ (by rw [if_neg h1, if_neg h2, if_neg h3])⟩
  by_cases h4 : (0 : Int32) ≤ a
  · obtain ⟨c, hc, rfl⟩ := nI_of (Int32.not_lt.mpr h4)
    obtain ⟨r, r1, r2⟩ := loop c 10000 0 0 hc (by omega) (Nat.le_refl _)
    refine ⟨r, sx _ ?_, sm _ ?_⟩
    · have e4 : qev en (d + 1) 4 [.ref 76, .int (nI c), .int q] τ = some (some (.int r), τ) := by
        refine le_X0_findRace en _ _ _ _ _ ?_
        rw [if_pos h4]
        exact r1
      rw [if_neg h1, if_neg h2, if_pos h3, e4, bI_some]
    · rw [if_neg h1, if_neg h2, if_pos h3]
      exact r2
  · have ea : a = -1 := by
      have g1 : -1 ≤ a.toInt := by
        have := Int32.not_lt.mp h1
        exact Int32.le_iff_toInt_le.mp this
      have g2 : a.toInt < 0 := by
        have := Int32.not_le.mp h4
        exact Int32.lt_iff_toInt_lt.mp this
      refine Int32.toInt_inj.mp ?_
      show a.toInt = -1
      omega
    subst ea
    refine ⟨nI (cntP (τ.1 77) 10000), sx _ ?_, sm _ ?_⟩
    · have e4 : qev en (d + 1) 4 [.ref 76, .int (-1), .int q] τ = some (some (.int (nI (cntP (τ.1 77) 10000))), τ) := by
        refine le_X0_findRace en _ _ _ _ _ ?_
        rw [if_neg h4, e76, e77, y6]
      rw [if_neg h1, if_neg h2, if_pos h3, e4, bI_some]
    · rw [if_neg h1, if_neg h2, if_pos h3]
      exact count 10000 0 (by omega)
end RA
