/-! ALL TURNS, both sides: ring's fifth question. -/
section RG5
variable {en : pN} {d d' w nc nl nt n p : Nat} {P : Nat → fI} {τ σ : qS} {X : xT} {fw : Bool}
theorem ring5_alike (hx : EXx P w nc nl nt n p fw X τ) (hm : EXm P w nc nl nt n fw X σ) : ∃ (r : Int32) (τ' : qS), qev en (d + 2) 230 [.ref 0, .int 5] τ = some (some (.int r), τ') ∧ qev en (d' + 2) 388 [.ref 151, .int 5] σ = some (some (.int r), σ) ∧ (∀ c, c ≠ 82 → τ'.1 c = τ.1 c) ∧ τ'.2 = τ.2 := by
  obtain ⟨ρ, F, N, G, b, eτ, ⟨⟨⟨-, -, -, -, -, -, -, -, x9⟩, -, -, -⟩, -, z2⟩, -, -⟩ := hx
  obtain ⟨ρ', F', s', y', g', D', eσ, ⟨-, -, -, -, -, -, -, -, m9⟩, -, -, k98, -, -, k120⟩ := hm
  have e17 : τ.1 70 17 = 1 := by rw [eτ, mS_o (by decide) (by decide) (by decide) (by decide)]; exact z2
  have e79 : τ.1 79 = ρ.1 79 := by rw [eτ]; exact mS_o (by decide) (by decide) (by decide) (by decide)
  have e98 : σ.1 151 98 = 1 := by rw [eσ, mM_F]; exact k98
  have e120 : σ.1 151 120 = F' 120 := by rw [eσ, mM_F]
  obtain ⟨τ', c1, c2, c3⟩ := x_crossed (en := en) (d := d) (O := xO X) e79 (fun a ha q hq => x9 a ha q (by omega))
  have c4 := m_crossed (en := en) (d := d') e120 m9
  refine ⟨bt (crs (wsK (xO X) 4)), τ', le_X11_ring en _ _ _ _ ?_, le_X12_ring en _ _ _ _ ?_, c2, c3⟩
  · rw [e17, if_neg (by decide), if_neg (by decide), if_pos (by decide), if_neg (fun z => z rfl), c1, bI_some]
  · rw [e98, if_neg (by decide), if_neg (by decide), if_pos (by decide), if_neg (fun z => z rfl), c4, bI_some, m_truth, bI_some]
end RG5
