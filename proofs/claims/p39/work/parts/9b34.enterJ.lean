/-! JUDGING, the class's side: a state gets its number, a step is followed. -/
theorem rdU {σ : qS} {a k b j : Nat} {v : Int32} : (uI σ a k v).1 b j = if b = a ∧ j = k then v else σ.1 b j := rfl
theorem gd_in {a N : Nat} {x : Option qR} (h : a < N) (hN : N < 2 ^ 31) : gd (p_inB (nI a) N = true) x = x := gd_true (n_in h hN)
/-- what stays -/
abbrev cjF (τ s : qS) : Prop := (∀ c, c < 103 ∨ 110 < c → s.1 c = τ.1 c) ∧ s.2 = τ.2
/-- the graph, as the class tells it -/
abbrev cjG (A E T : Nat → Nat) (N : Nat) (s : qS) : Prop := (∀ i, i < N + 1 → s.1 92 i = nI (A i)) ∧ (∀ e, e < A N → s.1 90 e = nI (E e * 64 + stN (T e)) ∧ E e < N ∧ T e < 40) ∧ s.1 83 3 = nI N
section ENJ
variable {en : pN} {d N C no nn Q v u i0 : Nat} {I L G X op tr A E T : Nat → Nat} {s s' s'' τ : qS} {W B R K : Nat → Bool}
theorem cjF.rf : cjF τ τ := ⟨fun _ _ => rfl, rfl⟩
theorem cjF.tr' (h : cjF s s') (g : cjF s' s'') : cjF s s'' := ⟨fun c z => (g.1 c z).trans (h.1 c z), g.2.trans h.2⟩
theorem cjG.fr (h : cjG A E T N s) (g : cjF s s') : cjG A E T N s' := by
  obtain ⟨h1, h2, h3⟩ := h
  refine ⟨fun i hi => ?_, fun e he => ?_, ?_⟩
  · rw [g.1 92 (by omega)]; exact h1 i hi
  · rw [g.1 90 (by omega)]; exact h2 e he
  · rw [g.1 83 (by omega)]; exact h3
end ENJ

