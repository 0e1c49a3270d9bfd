/-! REWRITINGS: the calls, on both sides. -/
/-- the class's rewritten program as P -/
abbrev rpX (s : qS) (P : Nat → fI) : Prop := (∀ a, a < 25 → s.1 (36 + a) = P a) ∧ lmN P = 500 ∧ s.1 8 = P 25 ∧ s.1 9 = P 26
/-- what a rewriting may change -/
abbrev wrX (s s' : qS) : Prop := (∀ c, c ≠ 0 → c ≠ 70 → c ≠ 111 → (c < 36 ∨ 60 < c) → c ≠ 8 → c ≠ 9 → s'.1 c = s.1 c) ∧ (∀ j, j < 400 → s'.1 8 j = s.1 8 j ∧ s'.1 9 j = s.1 9 j) ∧ (∀ j, j ≠ 10 → j ≠ 11 → j ≠ 12 → s'.1 0 j = s.1 0 j) ∧ (∀ j, j ≠ 17 → s'.1 70 j = s.1 70 j) ∧ (∀ j, j ≠ 4 → s'.1 111 j = s.1 111 j) ∧ (∀ a, a ≠ 37 → a ≠ 38 → s'.2.1 a = s.2.1 a) ∧ s'.2.2 = s.2.2
section RWC
variable {en : pN} {d d' k i n N j r v u m nc nl nt key a w : Nat} {V cl th K : Nat → Nat} {U : Nat → Nat → Nat} {bl : Nat → List Nat} {go : Nat → Bool} {s s' s'' s1 t t' t'' t1 : qS} {e x g y b o : Bool} {z a1 a2 : Int32} {P : Nat → fI}
theorem wrX.rf : wrX s s := ⟨fun _ _ _ _ _ _ _ => rfl, fun _ _ => ⟨rfl, rfl⟩, fun _ _ _ _ => rfl, fun _ _ => rfl, fun _ _ => rfl, fun _ _ _ => rfl, rfl⟩
theorem wrX.tr (h : wrX s s') (f : wrX s' s'') : wrX s s'' := ⟨fun c c1 c2 c3 c4 c5 c6 => (f.1 c c1 c2 c3 c4 c5 c6).trans (h.1 c c1 c2 c3 c4 c5 c6), fun j hj => ⟨(f.2.1 j hj).1.trans (h.2.1 j hj).1, (f.2.1 j hj).2.trans (h.2.1 j hj).2⟩, fun j j1 j2 j3 => (f.2.2.1 j j1 j2 j3).trans (h.2.2.1 j j1 j2 j3), fun j hj => (f.2.2.2.1 j hj).trans (h.2.2.2.1 j hj), fun j hj => (f.2.2.2.2.1 j hj).trans (h.2.2.2.2.1 j hj), fun c c1 c2 => (f.2.2.2.2.2.1 c c1 c2).trans (h.2.2.2.2.2.1 c c1 c2), f.2.2.2.2.2.2.trans h.2.2.2.2.2.2⟩
theorem wrX.ch (h : chX s s') : wrX s s' := ⟨fun c _ _ _ c4 c5 c6 => h.1 c (by omega) c5 c6, h.2.1, fun j _ _ _ => by rw [h.1 0 (by decide) (by decide) (by decide)], fun j _ => by rw [h.1 70 (by decide) (by decide) (by decide)], fun j _ => by rw [h.1 111 (by decide) (by decide) (by decide)], fun _ _ _ => by rw [h.2.2.2], by rw [h.2.2.2]⟩
theorem wrX.cp (h : cpXf s s') : wrX s s' := ⟨fun c _ _ _ c4 _ _ => h.1 c c4, fun j _ => by rw [h.1 8 (by decide), h.1 9 (by decide)]; exact ⟨rfl, rfl⟩, fun j _ _ _ => by rw [h.1 0 (by decide)], fun j _ => by rw [h.1 70 (by decide)], fun j _ => by rw [h.1 111 (by decide)], h.2.1, h.2.2⟩
end RWC

