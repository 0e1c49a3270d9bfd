/-! ALL TURNS, the class's side: what is told of them stays. -/
section FRX
variable {en : pN} {d w nc nl nt n p : Nat} {P : Nat → fI} {τ τ' ρ ρ' : qS} {X : xT} {fw : Bool} {F : fI}
theorem xcF.fr (h : xcF P w nc nl nt p fw X ρ F) (t1 : ∀ c, c ≤ 72 ∨ (75 ≤ c ∧ c ≤ 80) ∨ (83 ≤ c ∧ c ≤ 93) → ρ'.1 c = ρ.1 c) (t2 : ρ'.2 = ρ.2) : xcF P w nc nl nt p fw X ρ' F := by
  obtain ⟨⟨⟨a1, a2, a3, a4, a5, a6, a7, a8, a9⟩, ⟨d1, d2, d3, d4, d5, d6, d7, d8⟩, m1, m2⟩, z1, z2⟩ := h
  have hp := a1.2.1
  exact ⟨⟨⟨xb_fr a1 (fun z hz => t1 z (by omega)) (by rw [t2]), ⟨a2.1, a2.2.1, a2.2.2.1, fun i hi => by rw [t1 (71 + 4) (by omega)]; exact a2.2.2.2.1 i hi, a2.2.2.2.2⟩, a3, a4, a5.fr (fun j _ => by rw [t1 83 (by omega)]) (fun i _ => by rw [t1 85 (by omega)]) (fun i _ => by rw [t1 86 (by omega)]) (fun _ _ _ _ => by rw [t2]), by rw [t1 70 (by omega)]; exact a6, fun e he => by rw [t1 90 (by omega)]; exact a7 e he, fun i h1 h2 => by rw [t1 91 (by omega)]; exact a8 i h1 h2, by rw [t1 79 (by omega)]; exact a9⟩, ⟨fun i hi => by rw [t1 92 (by omega)]; exact d1 i hi, fun i hi => by rw [t1 93 (by omega)]; exact d2 i hi, d3.fr (fun j _ => by rw [t1 87 (by omega)]) (fun i _ => by rw [t1 88 (by omega)]) (fun i _ => by rw [t1 89 (by omega)]) (fun _ _ _ _ => by rw [t2]), by rw [t1 70 (by omega)]; exact d4, fun z hz => by rw [t1 77 (by omega)]; exact d5 z hz, by rw [t1 76 (by omega), t1 77 (by omega)]; exact d6, fun c hc => by rw [t1 78 (by omega)]; exact d7 c hc, fun c hc => by rw [t1 80 (by omega)]; exact d8 c hc⟩, fun i h1 h2 => by rw [t1 93 (by omega)]; exact m1 i h1 h2, by rw [t1 70 (by omega)]; exact m2⟩, fun i hi => by rw [t1 92 (by omega)]; exact z1 i hi, by rw [t1 70 (by omega)]; exact z2⟩
theorem EXx.fr (hx : EXx P w nc nl nt n p fw X τ) (h1 : ∀ c, c ≤ 72 ∨ (75 ≤ c ∧ c ≤ 80) ∨ (83 ≤ c ∧ c ≤ 93) → τ'.1 c = τ.1 c) (h2 : τ'.2 = τ.2) : EXx P w nc nl nt n p fw X τ' := by
  obtain ⟨ρ, F, N, G, b, rfl, hf, hN⟩ := hx
  have pic := mS_pic (σ := ρ) (F := F) (N := N) (b := b) (G := G) (s' := τ') (fun c hc => h1 c (by omega)) (by rw [h1 7 (by omega)])
  refine ⟨_, F, N, G, b, pic, hf.fr (fun c hc => ?_) h2, hN⟩
  funext j
  show (if c = 71 ∨ c = 72 ∨ c = 10 ∨ (c = 7 ∧ j = 4) then ρ.1 c j else τ'.1 c j) = ρ.1 c j
  by_cases q : c = 71 ∨ c = 72 ∨ c = 10 ∨ (c = 7 ∧ j = 4)
  · rw [if_pos q]
  · rw [if_neg q, h1 c hc]
    by_cases q7 : c = 7
    · subst q7
      rw [mS_7 (Or.inl rfl) (by omega)]
    · rw [mS_o (by omega) (by omega) (by omega) q7]
end FRX

