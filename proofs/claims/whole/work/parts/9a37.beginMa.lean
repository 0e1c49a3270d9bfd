/-! THE RUN begins, the model's side. -/
section QE
variable {en : pN} {d : Nat} {σ τ : qS} {w nc nl nt n n' len t : Nat} {P g : Nat → fI} {N : fI} {u : Int32}
/-- what a beginning of the model's run may change -/
abbrev frN (σ τ : qS) : Prop := (∀ a, a ≠ 151 → (a < 164 ∨ (181 < a ∧ a < 187) ∨ 199 ≤ a) → τ.1 a = σ.1 a) ∧ (∀ a k, 164 ≤ a → a ≤ 179 → k < 300 → τ.1 a k = σ.1 a k) ∧ (∀ k, k < 12 → τ.1 181 k = σ.1 181 k) ∧ (∀ k, (k < 58 ∨ 74 ≤ k) → k ≠ 74 → k ≠ 76 → k ≠ 78 → k ≠ 149 → τ.1 151 k = σ.1 151 k) ∧ (∀ a, a ≠ 151 → a ≠ 180 → a ≠ 199 → τ.2.1 a = σ.2.1 a) ∧ (∀ k, k < 300 → τ.2.1 180 k = σ.2.1 180 k) ∧ (∀ k, k ≠ 72 → τ.2.1 151 k = σ.2.1 151 k) ∧ τ.2.2 = σ.2.2
theorem m_beginQ (hB : MB τ 0 P nc nl nt n) (hP : PV P nc nl nt n) (hin : ∀ c, c < nc → inR (P 4 c)) (h11 : ¬ τ.1 151 11 = 0) (h12 : τ.1 151 12 = nI nc) (h16 : τ.1 151 16 = nI nl) (h18 : τ.1 151 18 = nI nt) (h32 : τ.1 151 32 = nI n') (hn : n ≤ n') (hn' : n' ≤ 100) (hb : ∀ i, i < n' → vp_nar .boolean (τ.1 175 i) = τ.1 175 i) : ((u < 0 ∨ 2 < u) → qev en (d + 9) 332 [.ref 151, .int u] τ = some (some (.int (-1)), τ)) ∧ (∀ w, w ≤ 2 → u = nI w → ∃ τ', qev en (d + 9) 332 [.ref 151, .int u] τ = some (some (.int (nI (rdl P w (fst0 P w nc nt N) nt nt).length)), τ') ∧ frN τ τ' ∧ RMi τ' P w (fst0 P w nc nt N) nc nl nt n 0 (fun r => τ.1 (193 + r)) ∧ τ'.1 151 149 = 0) := by
  refine ⟨fun hu => ?_, fun w hw2 hu => ?_⟩
  · refine le_X12_begin en (d + 8) _ _ _ ?_
    rw [if_neg h11]
    rcases hu with z | z
    · rw [if_pos z]
    · by_cases a0 : u < 0
      · rw [if_pos a0]
      · rw [if_neg a0, if_neg (Int32.not_le.mpr z)]
  · subst hu
    have hc8 := hP.1.2
    have ht4 := hP.2.2.1.2
    have hS := f0_SV (M := N) hP hw2 hin
    obtain ⟨K1, W1, F1, s1, y1, e1, hB3, hR1, hW1, f78, f74, f76, fo⟩ := m_beginRun (en := en) (d := d + 4) (N := N) (σ := τ) (v1 := 0) (w := w) (n' := n') (K := τ.1 191) (W := τ.1 192) (F := τ.1 151) (s := τ.1 187) (y := τ.1 188) (gg := τ.1 189) (g := fun r => τ.1 (193 + r)) (X := τ.2.1 199) (D := τ.2.1 151 72) hB (by decide) hw2 hc8 ht4 h12 h16 h18 h32 hn hn' (fun i hi => by rw [show 100 * 0 + i = i by omega]; exact hb i hi)
    rw [kp_id, mM_id] at e1
    have g12 : ∀ j, j ≠ 58 → j ≠ 59 → j ≠ 60 → j ≠ 74 → j ≠ 76 → j ≠ 78 → j ≠ 149 → (upd F1 149 0) j = τ.1 151 j := fun j a1 a2 a3 a4 a5 a6 a7 => by rw [pk_un a7]; exact fo j a1 a2 a3 a4 a5 a6
    have q12 := (g12 12 (by decide) (by decide) (by decide) (by decide) (by decide) (by decide) (by decide)).trans h12
    have q16 := (g12 16 (by decide) (by decide) (by decide) (by decide) (by decide) (by decide) (by decide)).trans h16
    have q18 := (g12 18 (by decide) (by decide) (by decide) (by decide) (by decide) (by decide) (by decide)).trans h18
    obtain ⟨F2, g2, R2, s2, e2, f2, hM2, -, -, -⟩ := m_readyNow (en := en) (d := d) (K := K1) (W := W1) (F := upd F1 149 0) (s' := s1) (y := y1) (gg := τ.1 189) (D := τ.2.1 151 72) (g := fun r => τ.1 (193 + r)) (X := τ.2.1 199) hB3 hP hS hR1 q12 q16 q18 (by rw [pk_un (by decide)]; exact f76) hw2
    refine ⟨mM (kpS (uIr (cpT (cpS τ 0 3 n') 0 3 nt) 190 R2) K1 W1 (fun r => τ.1 (193 + r)) (τ.2.1 199)) F2 s2 y1 g2 (τ.2.1 151 72), le_X12_begin en (d + 8) _ _ _ ?_, ?_, rm_mk (mb_190 hB3) hR1 (fun u hu => ?_) hM2.1 hM2.2.1 hM2.2.2.1 ?_ ?_ ?_ (fun i hi => absurd hi (Nat.not_lt_zero _)), ?_⟩
    · have nw : ¬ nI w < 0 := nI_pos (by omega)
      have nw2 : nI w ≤ (2 : Int32) := by rw [n_ge (by decide) (by omega)]; exact hw2
      rw [if_neg h11, if_neg nw, if_pos nw2, show (0 : Int32) = nI 0 from rfl, e1, bV_some, nm_eq, mM_wF]
      rw [show nI 0 = (0 : Int32) from rfl, e2, bI_some]
    · refine ⟨fun a z1 z2 => ?_, fun a k z1 z2 hk => ?_, fun k hk => ?_, fun k hk k1 k2 k3 k4 => ?_, fun a z1 z2 z3 => ?_, fun k hk => ?_, fun k hk => ?_, rfl⟩
      · have q : (kpS (uIr (cpT (cpS τ 0 3 n') 0 3 nt) 190 R2) K1 W1 (fun r => τ.1 (193 + r)) (τ.2.1 199)).1 a = (uIr (cpT (cpS τ 0 3 n') 0 3 nt) 190 R2).1 a := kp_o (by omega)
        rw [mM_o z1 (by omega) (by omega) (by omega), q, uIr_ne (by omega), cpT_o (by omega), cpS_o (by omega)]
      · have q : (kpS (uIr (cpT (cpS τ 0 3 n') 0 3 nt) 190 R2) K1 W1 (fun r => τ.1 (193 + r)) (τ.2.1 199)).1 a = (uIr (cpT (cpS τ 0 3 n') 0 3 nt) 190 R2).1 a := kp_o (by omega)
        rw [mM_o (by omega) (by omega) (by omega) (by omega), q, uIr_ne (by omega), cpT_o (by omega)]
        exact if_neg (by omega)
      · have q : (kpS (uIr (cpT (cpS τ 0 3 n') 0 3 nt) 190 R2) K1 W1 (fun r => τ.1 (193 + r)) (τ.2.1 199)).1 181 = (uIr (cpT (cpS τ 0 3 n') 0 3 nt) 190 R2).1 181 := kp_o (by decide)
        rw [mM_o (by decide) (by decide) (by decide) (by decide), q, uIr_ne (by decide)]
        have q2 : (cpT (cpS τ 0 3 n') 0 3 nt).1 181 k = (cpS τ 0 3 n').1 181 k := if_neg (by omega)
        rw [q2, cpS_o (by decide)]
      · rw [mM_F, f2 k hk]
        exact g12 k (by omega) (by omega) (by omega) k1 k2 k3 k4
      · rw [mM_J z1]
        funext k
        show (if a = 199 then τ.2.1 199 k else if a = 180 ∧ 100 * 3 ≤ k ∧ k < 100 * 3 + n' then _ else τ.2.1 a k) = τ.2.1 a k
        rw [if_neg z3, if_neg (fun z => z2 z.1)]
      · rw [mk_180]
        show (if 180 = 180 ∧ 100 * 3 ≤ k ∧ k < 100 * 3 + n' then τ.2.1 180 (k - 100 * 3 + 100 * 0) else τ.2.1 180 k) = τ.2.1 180 k
        exact if_neg (by omega)
      · show (if (151 : Nat) = 151 ∧ k = 72 then τ.2.1 151 72 else if (151 : Nat) = 199 then τ.2.1 199 k else if (151 : Nat) = 180 ∧ 100 * 3 ≤ k ∧ k < 100 * 3 + n' then τ.2.1 151 (k - 100 * 3 + 100 * 0) else τ.2.1 151 k) = τ.2.1 151 k
        rw [if_neg (fun z => hk z.2), if_neg (by decide), if_neg (fun z => absurd z.1 (by decide))]
    · rw [hW1 u hu, f0_at hc8, if_neg (by omega), if_neg (by omega), if_neg (by omega), if_neg (by omega), if_neg (by omega), if_neg (by omega), if_pos (by omega)]
    · rw [f2 76 (by decide), pk_un (by decide)]; exact f76
    · rw [f2 78 (by decide), pk_un (by decide), f78]; rfl
    · rw [f2 74 (by decide), pk_un (by decide), f74]; decide
    · rw [mM_F, f2 149 (by decide), pk_us]
end QE
