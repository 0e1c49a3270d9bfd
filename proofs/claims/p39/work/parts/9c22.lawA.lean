/-! THE READER: facts of laws on both sides. -/
/-- what reading a law changes of the class -/
abbrev lwX (s s' : qS) : Prop := (∀ a, a ≠ 61 → a ≠ 62 → a ≠ 63 → a ≠ 65 → a ≠ 69 → ¬ sT a → s'.1 a = s.1 a) ∧ (∀ j, j ≠ 3 → s'.1 61 j = s.1 61 j) ∧ (∀ j, j < 8 ∨ 13 < j → s'.1 65 j = s.1 65 j) ∧ (∀ a, ¬ sT a ∨ a = 3 → s'.2.1 a = s.2.1 a) ∧ (∀ a k, ¬ sT a → ¬ (a = 65 ∧ k = 7) → s'.2.2 a k = s.2.2 a k) ∧ (frS sT s → frS sT s')
section LWA
variable {en : pN} {d d' k i n N j r v u m m' c nc nl nt q z D : Nat} {V cl th K : Nat → Nat} {U : Nat → Nat → Nat} {s s' s'' t t' t'' : qS} {B : Nat → Nat} {w : Int32} {F p : Nat}
theorem frS_eq (h : s'.2.2 = s.2.2) (g : frS sT s) : frS sT s' := fun a k ha hk => by
  rw [h] at hk ⊢
  exact g a k ha hk
theorem lwX.rf : lwX s s := ⟨fun _ _ _ _ _ _ _ => rfl, fun _ _ => rfl, fun _ _ => rfl, fun _ _ => rfl, fun _ _ _ _ => rfl, fun h => h⟩
theorem lwX.tr (h : lwX s s') (g : lwX s' s'') : lwX s s'' := ⟨fun a h1 h2 h3 h4 h5 h6 => (g.1 a h1 h2 h3 h4 h5 h6).trans (h.1 a h1 h2 h3 h4 h5 h6), fun j a => (g.2.1 j a).trans (h.2.1 j a), fun j a => (g.2.2.1 j a).trans (h.2.2.1 j a), fun a h1 => (g.2.2.2.1 a h1).trans (h.2.2.2.1 a h1), fun a k h1 h2 => (g.2.2.2.2.1 a k h1 h2).trans (h.2.2.2.2.1 a k h1 h2), fun z => g.2.2.2.2.2 (h.2.2.2.2.2 z)⟩
theorem lwX.rx (h : rxF true 61 m s s') : lwX s s' := ⟨fun a h1 h2 h3 h4 _ h6 => h.1 a (fun z => h6 (z ▸ sT_1)) (Or.inr rfl) h1 h2 h3 h4, h.2.2.1, fun j hj => h.2.2.2.2.1 j (by omega) (by omega) (by omega), fun a h1 => h.2.2.2.2.2.1 a (fun z => by rcases h1 with h1 | h1; exact h1 (z ▸ sT_1); omega) (Or.inr rfl), fun a k _ _ => by rw [h.2.2.2.2.2.2], frS_eq h.2.2.2.2.2.2⟩
theorem lwX.tk (h : tnF s s') : lwX s s' := lwX.rx (m := 0) (rxF.tk h (Or.inr rfl))
theorem lwX.bm (h : bmF s s') : lwX s s' := lwX.tk (tnF.bm h)
theorem lwX.ui : lwX s (uI s 69 j w) := ⟨fun a _ _ _ _ h _ => uI_ne h, fun j _ => by rw [uI_ne (by decide)], fun j _ => by rw [uI_ne (by decide)], fun _ _ => rfl, fun _ _ _ _ => rfl, fun h => h⟩
theorem lwX.uf (hj : 8 ≤ j ∧ j ≤ 13) : lwX s (uI s 65 j w) := ⟨fun a _ _ _ h _ _ => uI_ne h, fun j _ => by rw [uI_ne (by decide)], fun i hi => by rw [rdU, if_neg (by omega)], fun _ _ => rfl, fun _ _ _ _ => rfl, fun h => h⟩
theorem lwX.ox (h : oxF 61 s s') (h3 : s'.2.1 3 = s.2.1 3) (hz : frS sT s') : lwX s s' := ⟨fun a h1 _ _ h4 _ h6 => h.1 a h4 h1 h6, h.2.1, fun j hj => h.2.2.1 j (by omega) (by omega) (by omega) (by omega), fun a ha => by
  rcases ha with ha | ha
  · exact h.2.2.2.1 a ha
  · rw [ha]; exact h3, h.2.2.2.2, fun _ => hz⟩
end LWA

