/-! SWITCHES, both sides: told alike. -/
section SWZ
variable {en : pN} {d d' w nc nl nt n p o k s M : Nat} {P : Nat → fI} {τ σ : qS} {X : xT} {fw : Bool} {a q : Int32} {S : Nat → fI} {T T5 G : Nat → Nat}
theorem sw_eq (hX : XV P w nc nl nt n X) (hJ : XJ X (xN X + 1)) (ho : o < (outL P w nt (xS X) (xN X)).length) (hT : grT P w nt X 200000 (fun k l => T (4 * k + l))) (hZ : mwZ P w nt X (outL P w nt (xS X) (xN X)).length T5 G) :
    (oK P w nt X o = 0 → G o = 0) ∧ (oK P w nt X o ≠ 0 → ∀ r, (∀ s' t, oK P w nt X o ≤ s' → s' < xN X → gdO P w nt X o s' → t < 4 → r ≤ T (4 * s' + t)) → (r = 200000 ∨ ∃ s' t, oK P w nt X o ≤ s' ∧ s' < xN X ∧ gdO P w nt X o s' ∧ t < 4 ∧ T (4 * s' + t) = r) → r = G o) := by
  have hlim := @lim_le w
  have hxN := hX.1
  obtain ⟨f1, f2, f3⟩ := out_first (P := P) (w := w) (nt := nt) (S := xS X) ho
  obtain ⟨z1, z2, z3, z4, z5⟩ := hZ
  have hoo : (outL P w nt (xS X) (xN X)).getD o 0 = oK P w nt X o := rfl
  rw [hoo] at f1 f2 f3
  refine ⟨fun h0 => ?_, fun h0 r h1 h2 => ?_⟩
  · rw [h0] at f2 f3
    have := z2 4 (by omega) (by omega) f2
    have f3 : outN P w nt (xS X) (4 / 5) = o := f3
    rw [f3] at this
    omega
  have eqT : ∀ k l, k < xN X → l < 4 → T5 (5 * k + l) = min (T (4 * k + l)) 100000 := fun k l hk hl => grT_eq hT z1 (by decide) hk hl
  -- finite somewhere
  obtain ⟨t, ht, hfin⟩ := gr_fin hX hJ z1.1 (oK P w nt X o) (by omega) f1
  have hfin : T5 (5 * oK P w nt X o + t) ≤ oK P w nt X o := hfin
  have hG := z2 (5 * oK P w nt X o + t) (by omega) (by omega) (by rw [show (5 * oK P w nt X o + t) / 5 = oK P w nt X o by omega]; exact f2)
  rw [show (5 * oK P w nt X o + t) / 5 = oK P w nt X o by omega, f3] at hG
  obtain ⟨g1, g2⟩ := z3 o ho
  obtain ⟨v, v1, v2, v3, v4, v5⟩ := g2.resolve_left (by omega)
  have hv4 : v % 5 < 4 := by
    refine Nat.lt_of_not_le fun y => ?_
    have y : v % 5 = 4 := by omega
    by_cases q : v / 5 = 0
    · have := first_le (P := P) (w := w) (nt := nt) (S := xS X) (M := xN X) (s := v / 5) (by omega) v2 v3
      rw [hoo] at this
      omega
    · have := z5 (v / 5) (by omega) (by omega)
      rw [show 5 * (v / 5) + 4 = v by omega] at this
      exact v5 this
  have hGv := z2 v v1 v5 v2
  rw [v3] at hGv
  have e1 := eqT (v / 5) (v % 5) (by omega) hv4
  rw [show 5 * (v / 5) + v % 5 = v by omega] at e1
  have hfk := first_le (P := P) (w := w) (nt := nt) (S := xS X) (M := xN X) (s := v / 5) (by omega) v2 v3
  rw [hoo] at hfk
  have hr := h1 (v / 5) (v % 5) hfk (by omega) ⟨v2, v3⟩ hv4
  have hTv : T5 v ≤ 100000 := by rw [e1]; exact Nat.min_le_right _ _
  rcases h2 with h2 | ⟨s', t', a1, a2, a3, a4, a5⟩
  · omega
  · have e2 := eqT s' t' a2 a4
    have := z2 (5 * s' + t') (by omega) (by omega) (by rw [show (5 * s' + t') / 5 = s' by omega]; exact a3.1)
    rw [show (5 * s' + t') / 5 = s' by omega, a3.2] at this
    omega
/-- what may change where switches are asked for -/
abbrev frSx (τ τ' : qS) : Prop := (∀ c, c ≠ 70 → c ≠ 96 → c ≠ 97 → c ≠ 98 → τ'.1 c = τ.1 c) ∧ (∀ j, j ≠ 15 → j ≠ 16 → j ≠ 19 → τ'.1 70 j = τ.1 70 j) ∧ τ'.2 = τ.2
abbrev frSm (σ σ' : qS) : Prop := (∀ c, c ≠ 151 → c ≠ 227 → c ≠ 228 → c ≠ 229 → σ'.1 c = σ.1 c) ∧ (∀ j, j ≠ 121 → σ'.1 151 j = σ.1 151 j) ∧ σ'.2 = σ.2
theorem swE_of (hx : EXx P w nc nl nt n p fw X τ) : swE P w nt X τ := by
  obtain ⟨fx, -, -⟩ := hx.flat
  exact ⟨fx.1.1.2.2.2.2.2.2.1, fx.2.1, fx.1.2.1.2.1⟩
theorem mwE_of (hm : EXm P w nc nl nt n fw X σ) : mwE P w nt X σ := by
  obtain ⟨fm, ⟨-, g2, -⟩, g3, -⟩ := hm.flat
  exact ⟨fm.2.2.2.2.1, g3, g2⟩
theorem switches_alike (hP : PV P nc nl nt n) (hX : XV P w nc nl nt n X) (hJ : XJ X (xN X + 1)) (hx : EXx P w nc nl nt n p fw X τ) (hm : EXm P w nc nl nt n fw X σ) (hsx : swx P w nt X τ) (hsm : swm P w nt X σ) :
    ∃ (r : Int32) (τ' σ' : qS), qev en (d + 6) 222 [.ref 0, .int a, .int 2] τ = some (some (.int r), τ') ∧ qev en (d' + 2) 370 [.ref 151, .int a, .int 2] σ = some (some (.int r), σ') ∧ frSx τ τ' ∧ frSm σ σ' ∧ swx P w nt X τ' ∧ swm P w nt X σ' := by
  have hlim := @lim_le w
  have hxN := hX.1
  have rfx : frSx τ τ := ⟨fun _ _ _ _ _ => rfl, fun _ _ _ _ => rfl, rfl⟩
  have rfm : frSm σ σ := ⟨fun _ _ _ _ _ => rfl, fun _ _ => rfl, rfl⟩
  have sw3 : ∀ {α : Type} {z : Int} {A B C D : Option α}, swI z 0 [A, B, C] D = if z = 0 then A else if z = 1 then B else if z = 2 then C else D := fun {_ _ _ _ _ _} => rfl
  rcases hasOut_alike (en := en) (d := d + 4) (d' := d') (a := a) hX hx hm with ⟨e1, e2⟩ | ⟨o, ho, rfl, e1, e2⟩
  · refine ⟨-1, τ, σ, le_X11_outcome en _ _ _ _ _ ?_, le_X12_outcome en _ _ _ _ _ ?_, rfx, rfm, hsx, hsm⟩
    · rw [e1, bI_some, if_neg (fun z => z rfl)]
    · rw [e2, bI_some, if_neg (fun z => z rfl)]
  have hol := outL_len (P := P) (w := w) (nt := nt) (S := xS X) (xN X)
  have fx := hx.flat.1
  have fm := hm.flat
  have hN83 : τ.1 83 3 = nI (xN X) := fx.1.1.2.2.2.2.1.1
  -- the class's table
  have hcx : ∃ (τ1 : qS) (T : Nat → Nat), (∀ r, L_X10_fewestSwitches_16 en (d + 4) (nI o) τ1 = some r → qev en (d + 5) 192 [.ref 70, .int (nI o)] τ = some r) ∧ frSx τ τ1 ∧ τ1.1 70 19 = 1 ∧ (∀ j, j < 80000 → τ1.1 96 j = nI (T j)) ∧ grT P w nt X 200000 (fun k l => T (4 * k + l)) := by
    rcases hsx with h0 | ⟨h1, T, t1, t2⟩
    · obtain ⟨s', T, c1, c2, c3, c4⟩ := x_count (en := en) (d := d) hP hX hJ (swE_of hx)
      refine ⟨uI s' 70 19 1, T, fun r hh => le_X10_fewestSwitches en _ _ _ _ ?_, ⟨fun c a1 a2 a3 a4 => by rw [uI_ne a1]; exact c2.1 c a1 a2 a3 a4, fun j a1 a2 a3 => by rw [g_I, if_neg (fun z => a3 z.2)]; exact c2.2.1 j a1 a2, c2.2.2⟩, by rw [g_I, if_pos ⟨rfl, rfl⟩], fun j hj => by rw [uI_ne (by decide)]; exact c3 j hj, c4⟩
      rw [h0, if_neg (not_not_intro rfl), c1, bV_some, nm_eq]
      exact hh
    · refine ⟨τ, T, fun r hh => le_X10_fewestSwitches en _ _ _ _ ?_, rfx, h1, t1, t2⟩
      rw [h1, if_pos (by decide)]
      exact hh
  -- the model's
  have hcm : ∃ (σ1 : qS) (T5 G : Nat → Nat), qev en (d' + 1) 373 [.ref 151] σ = some (none, σ1) ∧ frSm σ σ1 ∧ σ1.1 151 121 = 1 ∧ (∀ o, o < (outL P w nt (xS X) (xN X)).length → σ1.1 229 o = nI (G o)) ∧ mwZ P w nt X (outL P w nt (xS X) (xN X)).length T5 G := by
    rcases hsm with h0 | ⟨h1, T5, G, t1, t2⟩
    · obtain ⟨s', T5, G, c1, c2, c3, c4, c5⟩ := m_layW (en := en) (d := d') hP hX hJ (mwE_of hm) h0 fm.1.2.2.1.1 fm.2.1.2.2.2.1.1 (fun k hk he => (out_at hk he).1) (by omega)
      exact ⟨s', T5, G, c1, c2, c3, c4, c5⟩
    · refine ⟨σ, T5, G, le_X12_layWays en _ _ _ ?_, rfm, h1, t1, t2⟩
      rw [h1, if_neg (by decide)]
  obtain ⟨τ1, T, x1, x2, x3, x4, x5⟩ := hcx
  obtain ⟨σ1, T5, G, m1, m2, m3, m4, m5⟩ := hcm
  obtain ⟨q1, q2⟩ := sw_eq hX hJ ho x5 m5
  have hx1 : EXx P w nc nl nt n p fw X τ1 := hx.fl ⟨fun c hc => x2.1 c (by have := fx.1.1.1.2.1; omega) (by have := fx.1.1.1.2.1; omega) (by have := fx.1.1.1.2.1; omega) (by have := fx.1.1.1.2.1; omega), fun j hj => x2.2.1 j (by omega) (by omega) (by omega), by rw [x2.2.2], by rw [x2.2.2]⟩
  have e185 := x_stOut (en := en) (d := d + 3) hP hX hx1 ho
  have finm : qev en (d' + 2) 370 [.ref 151, .int (nI o), .int 2] σ = some (some (.int (nI (G o))), σ1) := by
    refine le_X12_outcome en _ _ _ _ _ ?_
    rw [e2, bI_some, if_pos (by decide), if_neg (not_not_intro rfl), m1, bV_some, gd_true (n_in (by omega) (by decide)), n_cl (by omega), m4 o ho]
  have finx : ∀ r, L_X10_fewestSwitches_16 en (d + 4) (nI o) τ1 = some (some (.int r), τ1) → qev en (d + 6) 222 [.ref 0, .int (nI o), .int 2] τ = some (some (.int r), τ1) := fun r hh => by
    refine le_X11_outcome en _ _ _ _ _ ?_
    rw [e1, bI_some, if_pos (by decide), sw3, if_neg (show ¬ (2 : Int32).toInt = 0 by decide), if_neg (show ¬ (2 : Int32).toInt = 1 by decide), if_pos (show (2 : Int32).toInt = 2 by decide), x1 _ hh, bI_some]
  by_cases h0 : oK P w nt X o = 0
  · refine ⟨nI (G o), τ1, σ1, finx _ (le_X10_fewestSwitches_16 en _ _ _ _ ?_), finm, x2, m2, Or.inr ⟨x3, T, x4, x5⟩, Or.inr ⟨m3, T5, G, m4, m5⟩⟩
    rw [e185, bI_some, h0, if_neg (not_not_intro (show nI 0 = (0 : Int32) from rfl)), q1 h0]
    rfl
  · have hok : oK P w nt X o < xN X := outL_lt _ _ (getD_mem ho)
    obtain ⟨r, r1, r2, r3, r4⟩ := x_few (en := en) (d := d + 3) hP hX (swE_of hx1) (by rw [x2.1 83 (by decide) (by decide) (by decide) (by decide)]; exact hN83) (o := o) (by omega) x4 (fun j hj => by
      have := x5.2.1 (j / 4) (by omega) (j % 4) (by omega)
      have this : T (4 * (j / 4) + j % 4) ≤ 200000 := this
      rw [show 4 * (j / 4) + j % 4 = j by omega] at this
      exact this) (xN X - oK P w nt X o) (oK P w nt X o) 200000 (by omega) (Nat.le_refl _)
    have er := q2 h0 r r2 r3
    refine ⟨nI (G o), τ1, σ1, finx _ (le_X10_fewestSwitches_16 en _ _ _ _ ?_), finm, x2, m2, Or.inr ⟨x3, T, x4, x5⟩, Or.inr ⟨m3, T5, G, m4, m5⟩⟩
    rw [e185, bI_some, if_pos (by rw [show (0 : Int32) = nI 0 from rfl, n_EQ (by omega) (by omega)]; exact h0), ← er]
    exact r4
end SWZ
