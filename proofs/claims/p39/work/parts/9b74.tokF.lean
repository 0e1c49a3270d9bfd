/-! THE READER: what is needed, on both sides. -/
/-- what the tokens' steps and faults change of the class -/
abbrev tnF (s s' : qS) : Prop := (∀ c, c ≠ 1 → c ≠ 65 → s'.1 c = s.1 c) ∧ (∀ j, j ≠ 8 → j ≠ 9 → j ≠ 10 → s'.1 1 j = s.1 1 j) ∧ (∀ j, j ≠ 11 → j ≠ 12 → s'.1 65 j = s.1 65 j) ∧ (∀ c, c ≠ 1 → s'.2.1 c = s.2.1 c) ∧ s'.2.2 = s.2.2
section TKF
variable {en : pN} {d d' k K q bs u n i i' ct ct' m m' m0 c c' c0 k' nc nl nt a b z dp F p : Nat} {lw : Bool} {V cl cl' : Nat → Nat} {U U' : Nat → Nat → Nat} {pl pl' : Nat → Nat} {s s' s'' t t' t'' : qS} {B : Nat → Nat} {O Q M W v w : Int32}
theorem tnF.rf : tnF s s := ⟨fun _ _ _ => rfl, fun _ _ _ _ => rfl, fun _ _ _ => rfl, fun _ _ => rfl, rfl⟩
theorem tnF.tr (h : tnF s s') (g : tnF s' s'') : tnF s s'' := ⟨fun c a b => (g.1 c a b).trans (h.1 c a b), fun j a b c => (g.2.1 j a b c).trans (h.2.1 j a b c), fun j a b => (g.2.2.1 j a b).trans (h.2.2.1 j a b), fun c a => (g.2.2.2.1 c a).trans (h.2.2.2.1 c a), g.2.2.2.2.trans h.2.2.2.2⟩
theorem tnF.ad (h : adF s s') : tnF s s' := ⟨fun c a _ => h.1 c a, h.2.1, fun j _ _ => by rw [h.1 65 (by decide)], h.2.2.1, h.2.2.2⟩
theorem tnF.bm (h : bmF s s') : tnF s s' := ⟨h.1, fun j _ b _ => h.2.1 j b, h.2.2.1, fun c _ => by rw [h.2.2.2], by rw [h.2.2.2]⟩
theorem rxF.tk (h : tnF s s') (hq : q = 7 ∨ q = 61) : rxF lw q m s s' := ⟨fun a h1 _ _ _ _ h6 => h.1 a h1 h6, h.2.1, fun j _ => by rw [h.1 q (by omega) (by omega)], fun j _ => ⟨by rw [h.1 (q + 1) (by omega) (by omega)], by rw [h.1 (q + 2) (by omega) (by omega)]⟩, fun j h1 h2 _ => h.2.2.1 j h1 h2, fun a h1 _ => h.2.2.2.1 a h1, h.2.2.2.2⟩
end TKF

