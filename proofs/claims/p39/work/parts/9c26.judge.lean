/-! A LAW READ AND JUDGED, both sides. -/
/-- what judging changes of the class, of the model -/
abbrev jdX (s s' : qS) : Prop := (∀ a, a ≠ 0 → a ≠ 61 → a ≠ 62 → a ≠ 63 → a ≠ 64 → a ≠ 65 → a ≠ 69 → a ≠ 72 → ¬ sT a → (a < 103 ∨ 110 < a) → s'.1 a = s.1 a) ∧ (∀ j, j ≠ 13 → s'.1 0 j = s.1 0 j) ∧ (∀ j, j < 8 ∨ 13 < j → s'.1 65 j = s.1 65 j) ∧ (∀ a, ¬ sT a ∨ a = 3 → s'.2.1 a = s.2.1 a) ∧ (∀ a k, ¬ sT a → ¬ (a = 65 ∧ k = 7) → s'.2.2 a k = s.2.2 a k) ∧ (frS sT s → frS sT s')
section JAL
variable {en : pN} {d d' k i n N j r v u m m' c nc nl nt q z D e e2 a w vv n' p : Nat} {V cl th K : Nat → Nat} {U : Nat → Nat → Nat} {s s' s'' t t' t'' : qS} {B : Nat → Nat} {v1 v2 v3 v4 : Int32} {F : Nat} {fr fw : Bool} {P : Nat → fI} {X : xT} {O Q : fI} {wi : Int32}
theorem jdX.tr (h : jdX s s') (g : jdX s' s'') : jdX s s'' := ⟨fun a h0 h1 h2 h3 h4 h5 h6 h7 h8 h9 => (g.1 a h0 h1 h2 h3 h4 h5 h6 h7 h8 h9).trans (h.1 a h0 h1 h2 h3 h4 h5 h6 h7 h8 h9), fun j a => (g.2.1 j a).trans (h.2.1 j a), fun j a => (g.2.2.1 j a).trans (h.2.2.1 j a), fun a h1 => (g.2.2.2.1 a h1).trans (h.2.2.2.1 a h1), fun a k h1 h2 => (g.2.2.2.2.1 a k h1 h2).trans (h.2.2.2.2.1 a k h1 h2), fun z => g.2.2.2.2.2 (h.2.2.2.2.2 z)⟩
end JAL

