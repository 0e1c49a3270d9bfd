/-! THE LAW'S sum: an outcome as one number. -/
/-- what asking for outcomes changes -/
abbrev frO (τ τ' : qS) : Prop := (∀ c, c ≠ 72 → τ'.1 c = τ.1 c) ∧ τ'.2 = τ.2
section SUM
variable {en : pN} {d nc nl n p o : Nat} {P : Nat → fI} {τ τ' τ'' : qS} {X : xT} {fw : Bool}
theorem frO.rf : frO τ τ := ⟨fun _ _ => rfl, rfl⟩
theorem frO.tr (h : frO τ τ') (g : frO τ' τ'') : frO τ τ'' := ⟨fun c hc => (g.1 c hc).trans (h.1 c hc), g.2.trans h.2⟩
theorem x_sum (hP : PV P nc nl 2 n) (hX : XV P 0 nc nl 2 n X) (hx : EXx P 0 nc nl 2 n p fw X τ) (hc : 3 ≤ nc) (h9 : τ.1 11 9 = nI nc) (h11 : τ.1 11 11 = nI 2) (h14 : ∀ t, t < 2 → τ.1 14 t = nI (lct P t)) (ho : o < (outL P 0 2 (xS X) (xN X)).length) : ∃ τ', qev en (d + 5) 443 [.ref 0, .int (nI o)] τ = some (some (.int (oV P (xS X (oK P 0 2 X o)))), τ') ∧ EXx P 0 nc nl 2 n p fw X τ' ∧ frO τ τ' := by
  obtain ⟨t0, e0, x0, f0, g0⟩ := x_out0 (en := en) (d := d + 1) hP hX hx ho
  have F0 : frO τ t0 := ⟨f0, g0⟩
  obtain ⟨t1, e1, x1, f1, g1⟩ := x_outC (en := en) (d := d + 1) (c := 0) hP hX x0 (by rw [F0.1 11 (by decide)]; exact h9) ho (by omega)
  have F1 : frO τ t1 := F0.tr ⟨f1, g1⟩
  obtain ⟨t2, e2, x2, f2, g2⟩ := x_outC (en := en) (d := d + 1) (c := 1) hP hX x1 (by rw [F1.1 11 (by decide)]; exact h9) ho (by omega)
  have F2 : frO τ t2 := F1.tr ⟨f2, g2⟩
  obtain ⟨t3, e3, x3, f3, g3⟩ := x_outC (en := en) (d := d + 1) (c := 2) hP hX x2 (by rw [F2.1 11 (by decide)]; exact h9) ho (by omega)
  have F3 : frO τ t3 := F2.tr ⟨f3, g3⟩
  obtain ⟨t4, e4, x4, f4, g4⟩ := x_outV (en := en) (d := d) (t := 0) (v := 0) hP hX x3 (by rw [F3.1 11 (by decide)]; exact h11) (fun t ht => by rw [F3.1 14 (by decide)]; exact h14 t ht) ho (by decide) (by decide)
  have F4 : frO τ t4 := F3.tr ⟨f4, g4⟩
  obtain ⟨t5, e5, x5, f5, g5⟩ := x_outV (en := en) (d := d) (t := 0) (v := 1) hP hX x4 (by rw [F4.1 11 (by decide)]; exact h11) (fun t ht => by rw [F4.1 14 (by decide)]; exact h14 t ht) ho (by decide) (by decide)
  have F5 : frO τ t5 := F4.tr ⟨f5, g5⟩
  obtain ⟨t6, e6, x6, f6, g6⟩ := x_outV (en := en) (d := d) (t := 1) (v := 0) hP hX x5 (by rw [F5.1 11 (by decide)]; exact h11) (fun t ht => by rw [F5.1 14 (by decide)]; exact h14 t ht) ho (by decide) (by decide)
  have F6 : frO τ t6 := F5.tr ⟨f6, g6⟩
  obtain ⟨t7, e7, x7, f7, g7⟩ := x_outV (en := en) (d := d) (t := 1) (v := 1) hP hX x6 (by rw [F6.1 11 (by decide)]; exact h11) (fun t ht => by rw [F6.1 14 (by decide)]; exact h14 t ht) ho (by decide) (by decide)
  have F7 : frO τ t7 := F6.tr ⟨f7, g7⟩
  have e1 : qev en (d + 4) 223 [.ref 0, .int (nI o), .int (0 : Int32)] t0 = some (some (.int (xS X (oK P 0 2 X o) 48)), t1) := e1
  have e2 : qev en (d + 4) 223 [.ref 0, .int (nI o), .int ((0 : Int32) + 1)] t1 = some (some (.int (xS X (oK P 0 2 X o) 49)), t2) := e2
  have e3 : qev en (d + 4) 223 [.ref 0, .int (nI o), .int ((0 : Int32) + 1 + 1)] t2 = some (some (.int (xS X (oK P 0 2 X o) 50)), t3) := e3
  have e4 : qev en (d + 4) 224 [.ref 0, .int (nI o), .int (0 : Int32), .int (0 : Int32)] t3 = some (some (.int (ocv P (xS X (oK P 0 2 X o)) 0 0)), t4) := e4
  have e5 : qev en (d + 4) 224 [.ref 0, .int (nI o), .int (0 : Int32), .int ((0 : Int32) + 1)] t4 = some (some (.int (ocv P (xS X (oK P 0 2 X o)) 0 1)), t5) := e5
  have e6 : qev en (d + 4) 224 [.ref 0, .int (nI o), .int ((0 : Int32) + 1), .int (0 : Int32)] t5 = some (some (.int (ocv P (xS X (oK P 0 2 X o)) 1 0)), t6) := e6
  have e7 : qev en (d + 4) 224 [.ref 0, .int (nI o), .int ((0 : Int32) + 1), .int ((0 : Int32) + 1)] t6 = some (some (.int (ocv P (xS X (oK P 0 2 X o)) 1 1)), t7) := e7
  generalize hN : xS X (oK P 0 2 X o) = N at e0 e1 e2 e3 e4 e5 e6 e7 ⊢
  have e0 : qev en (d + 4) 222 [.ref 0, .int (nI o), .int (0 : Int32)] τ = some (some (.int (nI (soS N 2))), t0) := e0
  refine ⟨t7, le_L_sum en (d + 4) (nI o) τ _ ?_, x7, F7⟩
  rw [e0, bI_some]
  refine le_L_sum_9 en (d + 4) _ _ _ _ _ ?_
  rw [if_neg (by decide), e1, bI_some, nm_eq]
  refine le_L_sum_9 en (d + 4) _ _ _ _ _ ?_
  rw [if_neg (by decide), e2, bI_some, nm_eq]
  refine le_L_sum_9 en (d + 4) _ _ _ _ _ ?_
  rw [if_neg (by decide), e3, bI_some, nm_eq]
  refine le_L_sum_9 en (d + 4) _ _ _ _ _ ?_
  rw [if_pos (by decide)]
  refine le_L_sum_35 en (d + 4) _ _ _ _ _ ?_
  rw [if_neg (by decide)]
  refine le_L_sum_43 en (d + 4) _ _ _ _ _ _ ?_
  rw [if_neg (by decide), e4, bI_some, nm_eq]
  refine le_L_sum_43 en (d + 4) _ _ _ _ _ _ ?_
  rw [if_neg (by decide), e5, bI_some, nm_eq]
  refine le_L_sum_43 en (d + 4) _ _ _ _ _ _ ?_
  rw [if_pos (by decide)]
  refine le_L_sum_35 en (d + 4) _ _ _ _ _ ?_
  rw [if_neg (by decide)]
  refine le_L_sum_43 en (d + 4) _ _ _ _ _ _ ?_
  rw [if_neg (by decide), e6, bI_some, nm_eq]
  refine le_L_sum_43 en (d + 4) _ _ _ _ _ _ ?_
  rw [if_neg (by decide), e7, bI_some, nm_eq]
  refine le_L_sum_43 en (d + 4) _ _ _ _ _ _ ?_
  rw [if_pos (by decide)]
  refine le_L_sum_35 en (d + 4) _ _ _ _ _ ?_
  rw [if_pos (by decide)]
  rfl
end SUM
