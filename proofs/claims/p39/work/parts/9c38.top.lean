/-! THE TOP: what both sides share between two calls; a call of each, one behind the other. -/
/-- the class's rows that tell of all turns, but for its nodes -/
abbrev fxW (p : Nat) (P : Nat → fI) (τ τ' : qS) : Prop := (∀ c, (p ≤ c ∧ c < p + 25) ∨ c = 71 ∨ c = 72 ∨ c = 75 ∨ (76 ≤ c ∧ c ≤ 80) ∨ (83 ≤ c ∧ c ≤ 93) → τ'.1 c = τ.1 c) ∧ (∀ j, j < lmN P → τ'.1 8 j = τ.1 8 j ∧ τ'.1 9 j = τ.1 9 j) ∧ (∀ j, j = 13 ∨ j = 14 ∨ j = 17 ∨ j = 18 → τ'.1 70 j = τ.1 70 j) ∧ τ'.2.1 84 = τ.2.1 84 ∧ τ'.2.2 71 7 = τ.2.2 71 7
/-- the words that the class knows -/
abbrev kyI (s : qS) : Prop := (∀ j, j < 33 → s.2.1 3 j = Int64.ofNat (KN.getD j 0)) ∧ ∀ j, j < 7 → s.2.1 66 j = Int64.ofNat (CWN.getD j 0)
/-- the flags and words of version 2 -/
abbrev xtI (P : Nat → fI) (t : qS) (N : Nat) : Prop := (∀ i, i < N → vp_nar .boolean (t.1 175 (200 + i)) = t.1 175 (200 + i)) ∧ WDv t 2 N P
section TOPA
variable {en : pN} {d d' k i n N j r v u m nc nl nt key a w p len : Nat} {V cl th K : Nat → Nat} {U : Nat → Nat → Nat} {bl : Nat → List Nat} {go : Nat → Bool} {s s' t t' τ τ' σ σ' : qS} {e x g y b o fw : Bool} {z a1 a2 : Int32} {P P2 : Nat → fI} {X : xT} {F M : fI} {f f' : Nat → fI}
theorem xcF.flw (h : xcF P w nc nl nt p fw X τ F) (t : fxW p P τ τ') : xcF P w nc nl nt p fw X τ' F := by
  obtain ⟨⟨⟨a1, a2, a3, a4, a5, a6, a7, a8, a9⟩, ⟨d1, d2, d3, d4, d5, d6, d7, d8⟩, m1, m2⟩, z1, z2⟩ := h
  obtain ⟨t1, t8, t7, t84, t22⟩ := t
  obtain ⟨b1, b2, b3, b4, b5, b6⟩ := a1
  exact ⟨⟨⟨⟨b1, b2, by rw [t22]; exact b3, fun a ha => by rw [t1 (p + a) (by omega)]; exact b4 a ha, ⟨b5.1, fun j hj => (t8 j hj).1.trans (b5.2 j hj)⟩, fun j hj => (t8 j hj).2.trans (b6 j hj)⟩, ⟨a2.1, a2.2.1, a2.2.2.1, fun i hi => by rw [t1 (71 + 4) (by omega)]; exact a2.2.2.2.1 i hi, a2.2.2.2.2⟩, a3, a4, a5.fr (fun j _ => by rw [t1 83 (by omega)]) (fun i _ => by rw [t1 85 (by omega)]) (fun i _ => by rw [t1 86 (by omega)]) (fun _ _ _ _ => by rw [t84]), by rw [t7 13 (by omega)]; exact a6, fun e he => by rw [t1 90 (by omega)]; exact a7 e he, fun i h1 h2 => by rw [t1 91 (by omega)]; exact a8 i h1 h2, by rw [t1 79 (by omega)]; exact a9⟩, ⟨fun i hi => by rw [t1 92 (by omega)]; exact d1 i hi, fun i hi => by rw [t1 93 (by omega)]; exact d2 i hi, d3.fr (fun j _ => by rw [t1 87 (by omega)]) (fun i _ => by rw [t1 88 (by omega)]) (fun i _ => by rw [t1 89 (by omega)]) (fun _ _ _ _ => by rw [t84]), by rw [t7 14 (by omega)]; exact d4, fun z hz => by rw [t1 77 (by omega)]; exact d5 z hz, by rw [t1 76 (by omega), t1 77 (by omega)]; exact d6, fun c hc => by rw [t1 78 (by omega)]; exact d7 c hc, fun c hc => by rw [t1 80 (by omega)]; exact d8 c hc⟩, fun i h1 h2 => by rw [t1 93 (by omega)]; exact m1 i h1 h2, by rw [t7 18 (by omega)]; exact m2⟩, fun i hi => by rw [t1 92 (by omega)]; exact z1 i hi, by rw [t7 17 (by omega)]; exact z2⟩
theorem EXx.flw (hx : EXx P w nc nl nt n p fw X τ) (t : fxW p P τ τ') : EXx P w nc nl nt n p fw X τ' := by
  obtain ⟨h1, h2, h3⟩ := hx.flat
  exact EXx.of (by rw [t.1 71 (by omega)]; exact xcF.flw h1 t) (by rw [t.1 72 (by omega)]; exact h2) (by rw [t.1 72 (by omega)]; exact h3)
/-- a run is told by its own rows alone -/
theorem RXi.flv (h : RXi τ p P w M len f) (h1 : ∀ c, (p ≤ c ∧ c < p + 25) ∨ c = 113 ∨ (118 ≤ c ∧ c ≤ 123) → τ'.1 c = τ.1 c) (h2 : ∀ j, j < lmN P → τ'.1 8 j = τ.1 8 j ∧ τ'.1 9 j = τ.1 9 j) (h3 : τ'.1 112 8 = τ.1 112 8) (h4 : τ'.1 111 3 = τ.1 111 3 ∧ ¬ τ'.1 111 4 = 0) (h5 : τ'.2.1 124 = τ.2.1 124) (h6 : τ'.2.2 112 7 = τ.2.2 112 7) : RXi τ' p P w M len f := by
  obtain ⟨⟨b1, b2, b3, b4, b5, b6⟩, c1, c2, c3, c4, c5, c6⟩ := h
  exact ⟨⟨b1, b2, h6.trans b3, fun a ha => (h1 (p + a) (by omega)).trans (b4 a ha), ⟨b5.1, fun j hj => (h2 j hj).1.trans (b5.2 j hj)⟩, fun j hj => (h2 j hj).2.trans (b6 j hj)⟩, (h1 113 (by omega)).trans c1, h3.trans c2, h4.1.trans c3, h4.2, fun k hk => (h1 (118 + k) (by omega)).trans (c5 k hk), by rw [h5]; exact c6⟩
theorem RXi.flw (h : RXi τ p P w M len f) (h1 : ∀ c, (p ≤ c ∧ c < p + 25) ∨ c = 113 ∨ (118 ≤ c ∧ c ≤ 123) → τ'.1 c = τ.1 c) (h2 : ∀ j, j < lmN P → τ'.1 8 j = τ.1 8 j ∧ τ'.1 9 j = τ.1 9 j) (h3 : τ'.1 112 8 = τ.1 112 8) (h4 : τ'.1 111 3 = τ.1 111 3 ∧ τ'.1 111 4 = τ.1 111 4) (h5 : τ'.2.1 124 = τ.2.1 124) (h6 : τ'.2.2 112 7 = τ.2.2 112 7) : RXi τ' p P w M len f := by
  obtain ⟨⟨b1, b2, b3, b4, b5, b6⟩, c1, c2, c3, c4, c5, c6⟩ := h
  exact ⟨⟨b1, b2, h6.trans b3, fun a ha => (h1 (p + a) (by omega)).trans (b4 a ha), ⟨b5.1, fun j hj => (h2 j hj).1.trans (b5.2 j hj)⟩, fun j hj => (h2 j hj).2.trans (b6 j hj)⟩, (h1 113 (by omega)).trans c1, h3.trans c2, h4.1.trans c3, by rw [h4.2]; exact c4, fun k hk => (h1 (118 + k) (by omega)).trans (c5 k hk), by rw [h5]; exact c6⟩
theorem xtI_fr (h : xtI P t N) (hN : N ≤ 100) (h1 : ∀ j, 200 ≤ j → j < 300 → t'.1 175 j = t.1 175 j) (h2 : ∀ j, 200 ≤ j → j < 300 → t'.2.1 180 j = t.2.1 180 j) : xtI P t' N := ⟨fun i hi => by rw [h1 _ (by omega) (by omega)]; exact h.1 i hi, fun l hl hk => by rw [h2 _ (by omega) (by omega)]; exact h.2 l hl hk⟩
theorem xtI_eq (h : xtI P t N) (h1 : t'.1 175 = t.1 175) (h2 : t'.2.1 180 = t.2.1 180) : xtI P t' N := ⟨fun i hi => by rw [h1]; exact h.1 i hi, fun l hl hk => by rw [h2]; exact h.2 l hl hk⟩
end TOPA

