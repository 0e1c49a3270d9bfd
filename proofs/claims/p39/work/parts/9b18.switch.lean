/-! SWITCHES, both sides: told alike. -/
section SWZ
variable {en : pN} {d d' w nc nl nt n p o k s M : Nat} {P : Nat → fI} {τ σ : qS} {X : xT} {fw : Bool} {a q : Int32} {S : Nat → fI} {T T5 G : Nat → Nat}
theorem sw_eq (hX : XV P w nc nl nt n X) (hJ : XJ X (xN X + 1)) (ho : o < (outL P w nt (xS X) (xN X)).length) (hT : grT P w nt X 200000 (fun k l => T (4 * k + l))) (hZ : mwZ P w nt X (outL P w nt (xS X) (xN X)).length T5 G) :
    (oK P w nt X o = 0 → G o = 0) ∧ (oK P w nt X o ≠ 0 → ∀ r, (∀ s' t, oK P w nt X o ≤ s' → s' < xN X → gdO P w nt X o s' → t < 4 → r ≤ T (4 * s' + t)) → (r = 200000 ∨ ∃ s' t, oK P w nt X o ≤ s' ∧ s' < xN X ∧ gdO P w nt X o s' ∧ t < 4 ∧ T (4 * s' + t) = r) → r = G o) := by
  have hlim := @lim_le w
  have hxN := hX.1
  obtain ⟨f1, f2, f3⟩ := out_first (P := P) (w := w) (nt := nt) (S := xS X) ho
  obtain ⟨z1, z2, z3, z4, z5⟩ := hZ
  have hoo : (outL P w nt (xS X) (xN X)).getD o 0 = oK P w nt X o := rfl
  rw [hoo] at f1 f2 f3
  refine ⟨fun h0 => ?_, fun h0 r h1 h2 => ?_⟩
  · rw [h0] at f2 f3
    have := z2 4 (by omega) (by omega) f2
    have f3 : outN P w nt (xS X) (4 / 5) = o := f3
    rw [f3] at this
    omega
  have eqT : ∀ k l, k < xN X → l < 4 → T5 (5 * k + l) = min (T (4 * k + l)) 100000 := fun k l hk hl => grT_eq hT z1 (by decide) hk hl
  -- finite somewhere
  obtain ⟨t, ht, hfin⟩ := gr_fin hX hJ z1.1 (oK P w nt X o) (by omega) f1
  have hfin : T5 (5 * oK P w nt X o + t) ≤ oK P w nt X o := hfin
  have hG := z2 (5 * oK P w nt X o + t) (by omega) (by omega) (by rw [show (5 * oK P w nt X o + t) / 5 = oK P w nt X o by omega]; exact f2)
  rw [show (5 * oK P w nt X o + t) / 5 = oK P w nt X o by omega, f3] at hG
  obtain ⟨g1, g2⟩ := z3 o ho
  obtain ⟨v, v1, v2, v3, v4, v5⟩ := g2.resolve_left (by omega)
  have hv4 : v % 5 < 4 := by
    refine Nat.lt_of_not_le fun y => ?_
    have y : v % 5 = 4 := by omega
    by_cases q : v / 5 = 0
    · have := first_le (P := P) (w := w) (nt := nt) (S := xS X) (M := xN X) (s := v / 5) (by omega) v2 v3
      rw [hoo] at this
      omega
    · have := z5 (v / 5) (by omega) (by omega)
      rw [show 5 * (v / 5) + 4 = v by omega] at this
      exact v5 this
  have hGv := z2 v v1 v5 v2
  rw [v3] at hGv
  have e1 := eqT (v / 5) (v % 5) (by omega) hv4
  rw [show 5 * (v / 5) + v % 5 = v by omega] at e1
  have hfk := first_le (P := P) (w := w) (nt := nt) (S := xS X) (M := xN X) (s := v / 5) (by omega) v2 v3
  rw [hoo] at hfk
  have hr := h1 (v / 5) (v % 5) hfk (by omega) ⟨v2, v3⟩ hv4
  have hTv : T5 v ≤ 100000 := by rw [e1]; exact Nat.min_le_right _ _
  rcases h2 with h2 | ⟨s', t', a1, a2, a3, a4, a5⟩
  · omega
  · have e2 := eqT s' t' a2 a4
    have := z2 (5 * s' + t') (by omega) (by omega) (by rw [show (5 * s' + t') / 5 = s' by omega]; exact a3.1)
    rw [show (5 * s' + t') / 5 = s' by omega, a3.2] at this
    omega
/-- what may change where switches are asked for -/
abbrev frSx (τ τ' : qS) : Prop := (∀ c, c ≠ 70 → c ≠ 96 → c ≠ 97 → c ≠ 98 → τ'.1 c = τ.1 c) ∧ (∀ j, j ≠ 15 → j ≠ 16 → j ≠ 19 → τ'.1 70 j = τ.1 70 j) ∧ τ'.2 = τ.2
theorem swE_of (hx : EXx P w nc nl nt n p fw X τ) : swE P w nt X τ := by
  obtain ⟨fx, -, -⟩ := hx.flat
  exact ⟨fx.1.1.2.2.2.2.2.2.1, fx.2.1, fx.1.2.1.2.1⟩
end SWZ

