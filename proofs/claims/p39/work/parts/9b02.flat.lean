/-! ALL TURNS, both sides: what is told of them depends on its own rows alone. -/
section FLT
variable {en : pN} {d w nc nl nt n p : Nat} {P : Nat → fI} {τ τ' σ σ' ρ ρ' : qS} {X : xT} {fw : Bool} {F F' : fI}
/-- the class's rows that tell of all turns -/
abbrev fxE (p : Nat) (τ τ' : qS) : Prop := (∀ c, c = 8 ∨ c = 9 ∨ (p ≤ c ∧ c < p + 25) ∨ c = 71 ∨ c = 72 ∨ c = 75 ∨ (76 ≤ c ∧ c ≤ 80) ∨ (83 ≤ c ∧ c ≤ 93) → τ'.1 c = τ.1 c) ∧ (∀ j, j = 13 ∨ j = 14 ∨ j = 17 ∨ j = 18 → τ'.1 70 j = τ.1 70 j) ∧ τ'.2.1 84 = τ.2.1 84 ∧ τ'.2.2 71 7 = τ.2.2 71 7
theorem xcF.fl (h : xcF P w nc nl nt p fw X ρ F) (t : fxE p ρ ρ') : xcF P w nc nl nt p fw X ρ' F := by
  obtain ⟨⟨⟨a1, a2, a3, a4, a5, a6, a7, a8, a9⟩, ⟨d1, d2, d3, d4, d5, d6, d7, d8⟩, m1, m2⟩, z1, z2⟩ := h
  obtain ⟨t1, t7, t84, t22⟩ := t
  obtain ⟨b1, b2, b3, b4, b5, b6⟩ := a1
  exact ⟨⟨⟨⟨b1, b2, by rw [t22]; exact b3, fun a ha => by rw [t1 (p + a) (by omega)]; exact b4 a ha, by rw [t1 8 (by omega)]; exact b5, by rw [t1 9 (by omega)]; exact b6⟩, ⟨a2.1, a2.2.1, a2.2.2.1, fun i hi => by rw [t1 (71 + 4) (by omega)]; exact a2.2.2.2.1 i hi, a2.2.2.2.2⟩, a3, a4, a5.fr (fun j _ => by rw [t1 83 (by omega)]) (fun i _ => by rw [t1 85 (by omega)]) (fun i _ => by rw [t1 86 (by omega)]) (fun _ _ _ _ => by rw [t84]), by rw [t7 13 (by omega)]; exact a6, fun e he => by rw [t1 90 (by omega)]; exact a7 e he, fun i h1 h2 => by rw [t1 91 (by omega)]; exact a8 i h1 h2, by rw [t1 79 (by omega)]; exact a9⟩, ⟨fun i hi => by rw [t1 92 (by omega)]; exact d1 i hi, fun i hi => by rw [t1 93 (by omega)]; exact d2 i hi, d3.fr (fun j _ => by rw [t1 87 (by omega)]) (fun i _ => by rw [t1 88 (by omega)]) (fun i _ => by rw [t1 89 (by omega)]) (fun _ _ _ _ => by rw [t84]), by rw [t7 14 (by omega)]; exact d4, fun z hz => by rw [t1 77 (by omega)]; exact d5 z hz, by rw [t1 76 (by omega), t1 77 (by omega)]; exact d6, fun c hc => by rw [t1 78 (by omega)]; exact d7 c hc, fun c hc => by rw [t1 80 (by omega)]; exact d8 c hc⟩, fun i h1 h2 => by rw [t1 93 (by omega)]; exact m1 i h1 h2, by rw [t7 18 (by omega)]; exact m2⟩, fun i hi => by rw [t1 92 (by omega)]; exact z1 i hi, by rw [t7 17 (by omega)]; exact z2⟩
theorem EXx.flat (hx : EXx P w nc nl nt n p fw X τ) : xcF P w nc nl nt p fw X τ (τ.1 71) ∧ SV P w nc nl nt n (τ.1 72) ∧ τ.1 72 235 = 0 := by
  obtain ⟨ρ, F, N, G, b, rfl, hf, hN⟩ := hx
  have hp := hf.1.1.1.2.1
  rw [mS_m, show (mS ρ 71 F N b G).1 72 = N from mS_n]
  obtain ⟨⟨⟨a1, a2, a3, a4, a5, a6, a7, a8, a9⟩, ⟨d1, d2, d3, d4, d5, d6, d7, d8⟩, m1, m2⟩, z1, z2⟩ := hf
  have o : ∀ c, c ≠ 71 → c ≠ 72 → c ≠ 10 → c ≠ 7 → (mS ρ 71 F N b G).1 c = ρ.1 c := fun c h1 h2 h3 h4 => mS_o h1 h2 h3 h4
  obtain ⟨b1, b2, b3, b4, b5, b6⟩ := a1
  exact ⟨⟨⟨⟨⟨b1, b2, b3, fun a ha => by rw [o (p + a) (by omega) (by omega) (by omega) (by omega)]; exact b4 a ha, by rw [o 8 (by decide) (by decide) (by decide) (by decide)]; exact b5, by rw [o 9 (by decide) (by decide) (by decide) (by decide)]; exact b6⟩, ⟨a2.1, a2.2.1, a2.2.2.1, fun i hi => by rw [o (71 + 4) (by decide) (by decide) (by decide) (by decide)]; exact a2.2.2.2.1 i hi, a2.2.2.2.2⟩, a3, a4, a5.fr (fun j _ => by rw [o 83 (by decide) (by decide) (by decide) (by decide)]) (fun i _ => by rw [o 85 (by decide) (by decide) (by decide) (by decide)]) (fun i _ => by rw [o 86 (by decide) (by decide) (by decide) (by decide)]) (fun _ _ _ _ => rfl), by rw [o 70 (by decide) (by decide) (by decide) (by decide)]; exact a6, fun e he => by rw [o 90 (by decide) (by decide) (by decide) (by decide)]; exact a7 e he, fun i h1 h2 => by rw [o 91 (by decide) (by decide) (by decide) (by decide)]; exact a8 i h1 h2, by rw [o 79 (by decide) (by decide) (by decide) (by decide)]; exact a9⟩, ⟨fun i hi => by rw [o 92 (by decide) (by decide) (by decide) (by decide)]; exact d1 i hi, fun i hi => by rw [o 93 (by decide) (by decide) (by decide) (by decide)]; exact d2 i hi, d3.fr (fun j _ => by rw [o 87 (by decide) (by decide) (by decide) (by decide)]) (fun i _ => by rw [o 88 (by decide) (by decide) (by decide) (by decide)]) (fun i _ => by rw [o 89 (by decide) (by decide) (by decide) (by decide)]) (fun _ _ _ _ => rfl), by rw [o 70 (by decide) (by decide) (by decide) (by decide)]; exact d4, fun z hz => by rw [o 77 (by decide) (by decide) (by decide) (by decide)]; exact d5 z hz, by rw [o 76 (by decide) (by decide) (by decide) (by decide), o 77 (by decide) (by decide) (by decide) (by decide)]; exact d6, fun c hc => by rw [o 78 (by decide) (by decide) (by decide) (by decide)]; exact d7 c hc, fun c hc => by rw [o 80 (by decide) (by decide) (by decide) (by decide)]; exact d8 c hc⟩, fun i h1 h2 => by rw [o 93 (by decide) (by decide) (by decide) (by decide)]; exact m1 i h1 h2, by rw [o 70 (by decide) (by decide) (by decide) (by decide)]; exact m2⟩, fun i hi => by rw [o 92 (by decide) (by decide) (by decide) (by decide)]; exact z1 i hi, by rw [o 70 (by decide) (by decide) (by decide) (by decide)]; exact z2⟩, hN⟩
theorem EXx.of (h : xcF P w nc nl nt p fw X τ (τ.1 71)) (hS : SV P w nc nl nt n (τ.1 72)) (h0 : τ.1 72 235 = 0) : EXx P w nc nl nt n p fw X τ :=
  ⟨τ, τ.1 71, τ.1 72, τ.1 10, τ.1 7 4, (mS_id (σ := τ) (m := 71)).symm, h, hS, h0⟩
/-- the class's machine may stand anywhere -/
theorem EXx.fl (hx : EXx P w nc nl nt n p fw X τ) (t : fxE p τ τ') : EXx P w nc nl nt n p fw X τ' := by
  obtain ⟨h1, h2, h3⟩ := hx.flat
  exact EXx.of (by rw [t.1 71 (by omega)]; exact h1.fl t) (by rw [t.1 72 (by omega)]; exact h2) (by rw [t.1 72 (by omega)]; exact h3)
theorem EXx.fln {N : fI} (hx : EXx P w nc nl nt n p fw X τ) (t1 : ∀ c, c = 8 ∨ c = 9 ∨ (p ≤ c ∧ c < p + 25) ∨ c = 71 ∨ c = 75 ∨ (76 ≤ c ∧ c ≤ 80) ∨ (83 ≤ c ∧ c ≤ 93) → τ'.1 c = τ.1 c) (t2 : ∀ j, j = 13 ∨ j = 14 ∨ j = 17 ∨ j = 18 → τ'.1 70 j = τ.1 70 j) (t3 : τ'.2.1 84 = τ.2.1 84) (t4 : τ'.2.2 71 7 = τ.2.2 71 7) (hN : τ'.1 72 = N) (hS : SV P w nc nl nt n N) (h0 : N 235 = 0) : EXx P w nc nl nt n p fw X τ' := by
  obtain ⟨h1, h2, h3⟩ := hx.flat
  have hp := h1.1.1.1.2.1
  have h1' : xcF P w nc nl nt p fw X (uIr τ 72 N) (τ.1 71) := by
    have e : ∀ c, c ≠ 72 → (uIr τ 72 N).1 c = τ.1 c := fun c hc => uIr_ne hc
    refine ⟨⟨⟨xb_fr h1.1.1.1 (fun x hx => e x (by omega)) rfl, ⟨h1.1.1.2.1.1, h1.1.1.2.1.2.1, h1.1.1.2.1.2.2.1, fun i hi => by rw [e (71 + 4) (by decide)]; exact h1.1.1.2.1.2.2.2.1 i hi, h1.1.1.2.1.2.2.2.2⟩, h1.1.1.2.2.1, h1.1.1.2.2.2.1, ?_⟩, ?_, ?_⟩, ?_⟩
    · obtain ⟨a5, a6, a7, a8, a9⟩ := h1.1.1.2.2.2.2
      exact ⟨a5.fr (fun j _ => by rw [e 83 (by decide)]) (fun i _ => by rw [e 85 (by decide)]) (fun i _ => by rw [e 86 (by decide)]) (fun _ _ _ _ => rfl), by rw [e 70 (by decide)]; exact a6, fun z hz => by rw [e 90 (by decide)]; exact a7 z hz, fun i b1 b2 => by rw [e 91 (by decide)]; exact a8 i b1 b2, by rw [e 79 (by decide)]; exact a9⟩
    · obtain ⟨d1, d2, d3, d4, d5, d6, d7, d8⟩ := h1.1.2.1
      exact ⟨fun i hi => by rw [e 92 (by decide)]; exact d1 i hi, fun i hi => by rw [e 93 (by decide)]; exact d2 i hi, d3.fr (fun j _ => by rw [e 87 (by decide)]) (fun i _ => by rw [e 88 (by decide)]) (fun i _ => by rw [e 89 (by decide)]) (fun _ _ _ _ => rfl), by rw [e 70 (by decide)]; exact d4, fun z hz => by rw [e 77 (by decide)]; exact d5 z hz, by rw [e 76 (by decide), e 77 (by decide)]; exact d6, fun c hc => by rw [e 78 (by decide)]; exact d7 c hc, fun c hc => by rw [e 80 (by decide)]; exact d8 c hc⟩
    · exact ⟨fun i b1 b2 => by rw [e 93 (by decide)]; exact h1.1.2.2.1 i b1 b2, by rw [e 70 (by decide)]; exact h1.1.2.2.2⟩
    · exact ⟨fun i hi => by rw [e 92 (by decide)]; exact h1.2.1 i hi, by rw [e 70 (by decide)]; exact h1.2.2⟩
  have t : fxE p (uIr τ 72 N) τ' := ⟨fun c hc => by
    by_cases q : c = 72
    · subst q; rw [hN, uIr_row]
    · rw [uIr_ne q]; exact t1 c (by omega), fun j hj => by rw [uIr_ne (by decide)]; exact t2 j hj, t3, t4⟩
  exact EXx.of (by rw [t1 71 (by omega)]; exact h1'.fl t) (by rw [hN]; exact hS) (by rw [hN]; exact h0)
end FLT
