/-! THE CLASS'S CALLS: chances. -/
section CLC
variable {en : pN} {d nc nl nt n p o : Nat} {P : Nat → fI} {τ τ' : qS} {X : xT} {fw : Bool}
theorem x_chances (hBx : MBx P nc nl nt n) (hP : PV P nc nl nt n) (hX : XV P 0 nc nl nt n X) (hin : ∀ c, c < nc → inR (P 4 c)) (hx : EXx P 0 nc nl nt n p fw X τ) (ho : o < (outL P 0 nt (xS X) (xN X)).length) {dd k : Nat} (d1 : 1 ≤ dd) (d3 : dd ≤ 3) (k1 : 1 ≤ k) (k12 : k ≤ 12) :
    ∃ (τ' : qS), qev en (d + 9) 227 [.ref 0, .int (nI o), .int (nI dd), .int (nI k)] τ = some (some (.int (nI (chnN P nc nt X o dd k))), τ') ∧ frCx τ τ' ∧ EXx P 0 nc nl nt n p fw X τ' := by
  obtain ⟨fx, fxS, fx0⟩ := hx.flat
  have hw71 : τ.1 71 8 = nI 0 := fx.1.1.2.2.2.1
  have e1 := x_hasOut (en := en) (d := d + 7) hX hx ho
  have n0 : ¬ ¬ nI 0 = (0 : Int32) := not_not_intro rfl
  have hb1 : ¬ nI dd < 1 := by rw [show (1 : Int32) = nI 1 from rfl, n_LT (by omega) (by omega)]; omega
  have hb3 : ¬ (3 : Int32) < nI dd := by rw [show (3 : Int32) = nI 3 from rfl, n_LT (by omega) (by omega)]; omega
  have hc1 : ¬ nI k < 1 := by rw [show (1 : Int32) = nI 1 from rfl, n_LT (by omega) (by omega)]; omega
  have hc12 : nI k ≤ (12 : Int32) := by rw [show (12 : Int32) = nI 12 from rfl, n_LE (by omega) (by omega)]; exact k12
  have hsx : drS P nc nl nt n p X τ (τ.1 71) τ := ⟨τ, τ.1 71, τ.1 72, τ.1 7 4, τ.1 10, (mS_id (σ := τ) (m := 71)).symm, ⟨fx.1.1.1, fx.1.1.2.1, hw71, fx.1.2.1.2.2.1⟩, drF.rf, fun _ _ _ _ _ => rfl, fxS, fx0⟩
  obtain ⟨τ', x1, x2⟩ := x_counts (en := en) (d := d) hBx hP hX hin ho k12 ⟨d1, d3⟩ hsx
  refine ⟨τ', le_X11_chances en _ _ _ _ _ _ ?_, ?_, ?_⟩
  · rw [e1, bI_some, if_neg (by decide), hw71, if_neg n0, if_neg hb1, if_neg hb3, if_neg hc1, if_pos hc12, x2, bI_some]
  · obtain ⟨ρ, F, N, b, G, rfl, -, hF, -, -, -⟩ := x1
    exact ⟨fun c h1 h2 h3 h4 h5 => by rw [mS_o h3 h4 h2 h1]; exact hF.1 c h5, fun j hj => by rw [mS_7 (Or.inl rfl) hj, hF.1 7 (by decide)], hF.2.1, hF.2.2⟩
  · obtain ⟨ρ, F, N, b, G, rfl, -, hF, hFF, hS, h0⟩ := x1
    have hp := fx.1.1.1.2.1
    exact ⟨ρ, F, N, G, b, rfl, (fx.fl ⟨fun c hc => hF.1 c (by omega), fun j _ => by rw [hF.1 70 (by decide)], hF.2.1 84 (by decide), by rw [hF.2.2]⟩).Fl (hFF 5 (by decide) (by decide) (by decide) (by decide)) (hFF 6 (by decide) (by decide) (by decide) (by decide)) (hFF 8 (by decide) (by decide) (by decide) (by decide)), hS, h0⟩
end CLC
