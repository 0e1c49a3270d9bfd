/-! THE READER: what stands behind a statement's first word, on both sides. -/
/-- the call's words' numbers, base 128 -/
def CWN : List Nat := [32184629861, 240742628, 236665587, 236812776, 1849328, 1850100, 1700596]
/-- but for row r the line's rows are kept -/
abbrev kpX (r : Nat) (s s' : qS) : Prop := (∀ a, 18 ≤ a → a ≤ 27 → a ≠ r → s'.1 a = s.1 a) ∧ s'.1 68 = s.1 68 ∧ s'.2.1 67 = s.2.1 67
abbrev kpM (r : Nat) (t t' : qS) : Prop := (∀ a, smW a = true → a ≠ r → t'.1 a = t.1 a) ∧ t'.2.1 180 = t.2.1 180 ∧ t'.2.1 182 = t.2.1 182
section NMS
variable {en : pN} {d d' k i i' n N j x y r m u F p nc nl nt : Nat} {V cl : Nat → Nat} {U : Nat → Nat → Nat} {s s' s'' t t' t'' : qS} {B : Nat → Nat} {v w : Int32}
theorem kpX.rf : kpX r s s := ⟨fun _ _ _ _ => rfl, rfl, rfl⟩
theorem kpX.tr (h : kpX r s s') (g : kpX r s' s'') : kpX r s s'' := ⟨fun a h1 h2 h3 => (g.1 a h1 h2 h3).trans (h.1 a h1 h2 h3), g.2.1.trans h.2.1, g.2.2.trans h.2.2⟩
theorem kpX.rx (h : rxF false 7 m s s') : kpX r s s' := ⟨fun a h1 h2 _ => h.1 a (by omega) (Or.inl (by omega)) (by omega) (by omega) (by omega) (by omega), h.1 68 (by decide) (Or.inl (by decide)) (by decide) (by decide) (by decide) (by decide), h.2.2.2.2.2.1 67 (by decide) (Or.inl (by decide))⟩
theorem kpX.tk (h : tnF s s') : kpX r s s' := kpX.rx (m := 0) (rxF.tk h (Or.inl rfl))
theorem kpX.ui (hr : r ≠ 68) : kpX r s (uI s r j v) := ⟨fun a _ _ h => uI_ne h, uI_ne (Ne.symm hr), rfl⟩
theorem kpX.wk (h : kpX 0 s s') : kpX r s s' := ⟨fun a h1 h2 _ => h.1 a h1 h2 (by omega), h.2⟩
theorem kpM.rf : kpM r t t := ⟨fun _ _ _ => rfl, rfl, rfl⟩
theorem kpM.tr (h : kpM r t t') (g : kpM r t' t'') : kpM r t t'' := ⟨fun a h1 h2 => (g.1 a h1 h2).trans (h.1 a h1 h2), g.2.1.trans h.2.1, g.2.2.trans h.2.2⟩
theorem kpM.ui : kpM r t (uI t r j v) := ⟨fun a _ h => uI_ne h, rfl, rfl⟩
theorem stF.tk (h : tnF s s') : stF N m s s' := stF.rx (rxF.tk h (Or.inl rfl))
theorem ln166 : smW 166 = true := rfl
end NMS

