/-! THE READER: an expression on both sides: operands of a line. -/
/-- nodes' end, where nothing more is read -/
abbrev mEnd (s : qS) (q m : Nat) : Prop := ∃ x : Nat, s.1 q 3 = nI x ∧ m ≤ x ∧ x ≤ ln (q + 1)
section EXO
variable {en : pN} {d d' k K q bs u n i i' ct ct' m m' m0 c c' c0 k' nc nl nt a b z dp F p : Nat} {lw : Bool} {V cl : Nat → Nat} {U : Nat → Nat → Nat} {pl pl' : Nat → Nat} {s s' s'' t t' t'' : qS} {B : Nat → Nat} {O Q M W v w v1 v2 v3 v4 v5 : Int32}
/-- a node put by the class behind a fault -/
theorem x_putD (hq : q = 7 ∨ q = 61) (h : mEnd s q m) : ∃ s', qev en (d + 2) 76 [.ref q, .int v, .int w] s = some (none, s') ∧ rxF true q m s s' ∧ mEnd s' q m ∧ (∀ a, a = 1 ∨ a = 65 → s'.1 a = s.1 a) ∧ s'.2 = s.2 := by
  obtain ⟨x, h1, h2, h3⟩ := h
  have hlc : lc q = 4 := by rcases hq with rfl | rfl <;> rfl
  have hl1 : ln (q + 1) = 500 ∨ ln (q + 1) = 400 := by
    rcases hq with rfl | rfl
    · exact Or.inl rfl
    · exact Or.inr rfl
  have hl2 : ln (q + 2) = ln (q + 1) := by rcases hq with rfl | rfl <;> rfl
  by_cases hx : x < ln (q + 1)
  · have i1 : p_inB (nI x) (ln (q + 1)) = true := n_in (by omega) (by omega)
    have i2 : p_inB (nI x) (ln (q + 2)) = true := n_in (by omega) (by omega)
    refine ⟨uI (uI (uI s (q + 1) x v) (q + 2) x w) q 3 (nI (x + 1)), le_X4_put en _ _ _ _ _ _ ?_, ⟨fun a _ _ g1 g2 g3 _ => ?_, fun j _ _ _ => ?_, fun j hj => ?_, fun j hj => ⟨?_, ?_⟩, fun j _ _ _ => ?_, fun _ _ _ => rfl, rfl⟩, ⟨x + 1, ?_, by omega, by omega⟩, fun a ha => ?_, rfl⟩
    · have e77 : qev en (d + 1) 77 [.ref q, .int (nI x), .int v, .int w] s = some (none, uI (uI s (q + 1) x v) (q + 2) x w) := by
        refine le_X4_set en _ _ _ _ _ _ _ ?_
        rw [gd_true hlc, gd_true i1, n_cl (by omega), nm_eq, gd_true i2, nm_eq]
      have e0 : ¬ Int32.ofNat (ln (q + 1)) ≤ nI x := by
        show ¬ nI (ln (q + 1)) ≤ nI x
        rw [n_LE (by omega) (by omega)]; omega
      rw [gd_true hlc, h1, if_neg e0, e77, bV_some, nm_eq, uI_ne (by omega), uI_ne (by omega), h1, show nI x + (1 : Int32) = nI (x + 1) from n_ar]
    · rw [uI_ne g1, uI_ne g3, uI_ne g2]
    · rw [uI_ne (by omega), uI_ne (by omega), uI_ne (by omega)]
    · rw [rdU, if_neg (fun z => hj z.2), uI_ne (by omega), uI_ne (by omega)]
    · rw [uI_ne (by omega), uI_ne (by omega), rdU, if_neg (by omega)]
    · rw [uI_ne (by omega), rdU, if_neg (by omega), uI_ne (by omega)]
    · rw [uI_ne (by omega), uI_ne (by omega), uI_ne (by omega)]
    · rw [rdU, if_pos ⟨rfl, rfl⟩]
    · rw [uI_ne (by omega), uI_ne (by omega), uI_ne (by omega)]
  · refine ⟨s, le_X4_put en _ _ _ _ _ _ ?_, rxF.rf, ⟨x, h1, h2, h3⟩, fun _ _ => rfl, rfl⟩
    have e0 : Int32.ofNat (ln (q + 1)) ≤ nI x := by
      show nI (ln (q + 1)) ≤ nI x
      rw [n_LE (by omega) (by omega)]; omega
    rw [gd_true hlc, h1, if_pos e0]
end EXO

