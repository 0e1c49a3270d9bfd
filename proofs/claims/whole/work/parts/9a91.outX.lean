/-! ALL TURNS, both sides: outcomes. -/
section OU
variable {en : pN} {d d' w nc nl nt n p o j : Nat} {P : Nat → fI} {τ σ : qS} {X : xT} {fw : Bool} {a q : Int32}
theorem n_dv {z m : Nat} (hz : z < 2 ^ 31) (hm : m < 2 ^ 31) : nI z / nI m = nI (z / m) := by
  have hd : z / m < 2 ^ 31 := Nat.lt_of_le_of_lt (Nat.div_le_self z m) hz
  refine Int32.toInt_inj.mp ?_
  rw [Int32.toInt_div, n_to hz, n_to hm, n_to hd, ← Int.ofNat_tdiv]
  generalize z / m = k at hd
  exact Int.bmod_eq_of_le (by omega) (by omega)
noncomputable abbrev oK (P : Nat → fI) (w nt : Nat) (X : xT) (o : Nat) : Nat := (outL P w nt (xS X) (xN X)).getD o 0
theorem x_slotOf (hP : PV P nc nl nt n) (hX : XV P w nc nl nt n X) (hx : EXx P w nc nl nt n p fw X τ) (ho : o < (outL P w nt (xS X) (xN X)).length) (hj : j ≤ 233) : ∃ τ' : qS, qev en (d + 2) 186 [.ref 70, .int (nI o), .int (nI j)] τ = some (some (.int (if j = 233 then nI (soS (xS X (oK P w nt X o)) nt) else xS X (oK P w nt X o) j)), τ') ∧ EXx P w nc nl nt n p fw X τ' ∧ (∀ c, c ≠ 72 → τ'.1 c = τ.1 c) ∧ τ'.2 = τ.2 := by
  obtain ⟨ρ, F, N, G, b, rfl, hf, hN, hN5⟩ := hx
  have hf' := hf
  obtain ⟨⟨⟨x1, x2, x3, x4, x5, x6, x7, x8, x9⟩, ⟨y1, y2, y3, y4, y5, y6, y7, y8⟩, -, y10⟩, z1, z2⟩ := hf
  obtain ⟨⟨h0, h1⟩, hS, -⟩ := hX
  have hlim := @lim_le w
  have hk : oK P w nt X o < xN X := outL_lt _ _ (getD_mem ho)
  have hl := outL_len (P := P) (w := w) (nt := nt) (S := xS X) (xN X)
  have hSk := hS _ hk
  have hrow := x5.2.2.2.2.1 _ hk
  have hroom : oK P w nt X o * ((slA P w nc nl nt).length / 2) + (slA P w nc nl nt).length / 2 ≤ 740000 := hrow.2.1
  obtain ⟨N1, e1, n1, n2⟩ := x_unpack (en := en) (d := d) (a := 84) (f := oK P w nt X o * ((slA P w nc nl nt).length / 2)) (M := cnS nt (xS X (oK P w nt X o))) (N := N) (b := b) (G := G) (F := F) (Or.inl rfl) (xb_lm x1) x2 rfl hroom (by decide) (fun j hj => hrow.2.2 j hj)
  have hN1 : eqS N1 (xS X (oK P w nt X o)) := fun j hj => by
    by_cases q : j ∈ slA P w nc nl nt
    · rw [n1 j q]; exact if_pos hj
    · have q' : ¬ slP P w nc nl nt j := fun z => q (slA_of z)
      rw [n2 j q, SV_cst hP hN hj q', SV_cst hP hSk hj q']
  have hN15 : N1 235 = 0 := by
    by_cases q : 235 ∈ slA P w nc nl nt
    · rw [n1 235 q]; rfl
    · rw [n2 235 q]; exact hN5
  have hN13 : N1 233 = nI (soS (xS X (oK P w nt X o)) nt) := by
    rw [n1 233 (slA_of (Or.inl (slO_of (Or.inl rfl))))]; rfl
  refine ⟨mS ρ 71 F N1 b G, le_X10_slotOfOutcome en _ _ _ _ _ ?_, ⟨ρ, F, N1, G, b, rfl, hf', SV_eqS hP hN1 hSk, hN15⟩, fun c hc => ?_, rfl⟩
  · have e88 : (mS ρ 71 F N b G).1 88 o = nI (oK P w nt X o * ((slA P w nc nl nt).length / 2)) := by
      rw [mS_o (by decide) (by decide) (by decide) (by decide)]
      exact (y3.2.2.2.2.1 o ho).1
    rw [gd_true (n_in (by omega) (by decide)), n_cl (by omega), e88, e1, bV_some, gd_true (n_in (by omega) (by decide)), n_cl (by omega), show (mS ρ 71 F N1 b G).1 72 = N1 from mS_n (m := 71)]
    by_cases q : j = 233
    · rw [if_pos q, q, hN13]
    · rw [if_neg q, hN1 j (by omega)]
  · by_cases q : c = 71
    · rw [q, mS_m, mS_m]
    by_cases q2 : c = 10
    · rw [q2]; rfl
    by_cases q3 : c = 7
    · rw [q3]; rfl
    · rw [mS_o q hc q2 q3, mS_o q hc q2 q3]
/-- whether an outcome is told -/
theorem hasOut_alike (hX : XV P w nc nl nt n X) (hx : EXx P w nc nl nt n p fw X τ) (hm : EXm P w nc nl nt n fw X σ) : (qev en (d + 1) 184 [.ref 70, .int a] τ = some (some (.int 0), τ) ∧ qev en (d' + 1) 368 [.ref 151, .int a] σ = some (some (.int 0), σ)) ∨ ∃ o, o < (outL P w nt (xS X) (xN X)).length ∧ a = nI o ∧ qev en (d + 1) 184 [.ref 70, .int a] τ = some (some (.int 1), τ) ∧ qev en (d' + 1) 368 [.ref 151, .int a] σ = some (some (.int 1), σ) := by
  obtain ⟨ρ, F, N, G, b, rfl, ⟨⟨-, ⟨-, -, y3, -, -, -, -, -⟩, -, -⟩, -, z2⟩, -, -⟩ := hx
  obtain ⟨ρ', F', s', y', g', D', rfl, -, ⟨-, -, -, n4, -, -, -⟩, -, k98, -⟩ := hm
  have hl := outL_len (P := P) (w := w) (nt := nt) (S := xS X) (xN X)
  have hlim := @lim_le w
  have hxN := hX.1.2
  have e87 : (mS ρ 71 F N b G).1 87 3 = nI (outL P w nt (xS X) (xN X)).length := by rw [mS_o (by decide) (by decide) (by decide) (by decide)]; exact y3.1
  have e17 : (mS ρ 71 F N b G).1 70 17 = 1 := by rw [mS_o (by decide) (by decide) (by decide) (by decide)]; exact z2
  by_cases h0 : a < 0
  · left
    refine ⟨le_X10_hasOutcome en _ _ _ _ ?_, le_X12_isExploredOutcome en _ _ _ _ ?_⟩
    · rw [e17, if_neg (by decide), if_pos h0]
    · rw [mM_F, k98, if_neg (by decide), if_pos h0]
  obtain ⟨c, hc, rfl⟩ := nI_of h0
  by_cases h1 : c < (outL P w nt (xS X) (xN X)).length
  · right
    refine ⟨c, h1, rfl, le_X10_hasOutcome en _ _ _ _ ?_, le_X12_isExploredOutcome en _ _ _ _ ?_⟩
    · rw [e17, if_neg (by decide), if_neg h0, e87, if_neg (by rw [n_LE (by omega) (by omega)]; omega)]
    · rw [mM_F, k98, if_neg (by decide), if_neg h0, n4.1, if_neg (by rw [n_LE (by omega) (by omega)]; omega)]
  · left
    refine ⟨le_X10_hasOutcome en _ _ _ _ ?_, le_X12_isExploredOutcome en _ _ _ _ ?_⟩
    · rw [e17, if_neg (by decide), if_neg h0, e87, if_pos (by rw [n_LE (by omega) (by omega)]; omega)]
    · rw [mM_F, k98, if_neg (by decide), if_neg h0, n4.1, if_pos (by rw [n_LE (by omega) (by omega)]; omega)]
/-- sorts and states of outcomes (switches apart) -/
theorem outcome_alike (hP : PV P nc nl nt n) (hX : XV P w nc nl nt n X) (hx : EXx P w nc nl nt n p fw X τ) (hm : EXm P w nc nl nt n fw X σ) (hq : q ≠ 2) : ∃ (r : Int32) (τ' : qS), qev en (d + 3) 222 [.ref 0, .int a, .int q] τ = some (some (.int r), τ') ∧ qev en (d' + 2) 370 [.ref 151, .int a, .int q] σ = some (some (.int r), σ) ∧ EXx P w nc nl nt n p fw X τ' ∧ (∀ c, c ≠ 72 → τ'.1 c = τ.1 c) ∧ τ'.2 = τ.2 := by
  have hqt : ¬ q.toInt = 2 := fun z => hq (Int32.toInt_inj.mp z)
  have sw3 : ∀ {α : Type} {z : Int} {A B C D : Option α}, swI z 0 [A, B, C] D = if z = 0 then A else if z = 1 then B else if z = 2 then C else D := fun {_ _ _ _ _ _} => rfl
  rcases hasOut_alike (en := en) (d := d + 1) (d' := d') (a := a) hX hx hm with ⟨e1, e2⟩ | ⟨o, ho, rfl, e1, e2⟩
  · refine ⟨-1, τ, le_X11_outcome en _ _ _ _ _ ?_, le_X12_outcome en _ _ _ _ _ ?_, hx, fun _ _ => rfl, rfl⟩
    · rw [e1, bI_some, if_neg (fun z => z rfl)]
    · rw [e2, bI_some, if_neg (fun z => z rfl)]
  have hl := outL_len (P := P) (w := w) (nt := nt) (S := xS X) (xN X)
  have hlim := @lim_le w
  have hxN := hX.1.2
  obtain ⟨ρ', F', s', y', g', D', em, -, ⟨-, -, -, n4, -, -, -⟩, -, k98, -⟩ := id hm
  have e221 : σ.1 221 o = nI (oK P w nt X o) := by rw [em, mM_o (by decide) (by decide) (by decide) (by decide)]; exact (n4.2.1 o ho).1
  have e225 : σ.1 225 o = nI (soS (xS X (oK P w nt X o)) nt) := by rw [em, mM_o (by decide) (by decide) (by decide) (by decide)]; exact (n4.2.1 o ho).2
  by_cases q0 : q = 0
  · subst q0
    obtain ⟨τ', s1, s2, s3, s4⟩ := x_slotOf (en := en) (d := d) (j := 233) hP hX hx ho (Nat.le_refl _)
    rw [if_pos rfl] at s1
    have s1' : qev en (d + 2) 186 [.ref 70, .int (nI o), .int (233 : Int32)] τ = some (some (.int (nI (soS (xS X (oK P w nt X o)) nt))), τ') := s1
    refine ⟨nI (soS (xS X (oK P w nt X o)) nt), τ', le_X11_outcome en _ _ _ _ _ ?_, le_X12_outcome en _ _ _ _ _ ?_, s2, s3, s4⟩
    · rw [e1, bI_some, if_pos (by decide), sw3, if_pos (show (0 : Int32).toInt = 0 by decide), s1', bI_some]
    · rw [e2, bI_some, if_pos (by decide), if_pos (by decide), if_neg (fun z => z rfl), gd_true (n_in (by omega) (by decide)), n_cl (by omega), e225]
  have hq0t : ¬ q.toInt = 0 := fun z => q0 (Int32.toInt_inj.mp z)
  by_cases q1 : q = 1
  · subst q1
    obtain ⟨ρ, F, N, G, b, ex, ⟨⟨⟨-, x2, -, -, x5, -, -, -, -⟩, ⟨-, -, y3, -, -, -, -, -⟩, -, -⟩, -, z2⟩, -, -⟩ := id hx
    have hA := slA_len (w := w) hP
    have hpos : 0 < (slA P w nc nl nt).length := List.length_pos_of_mem (slA_of (Or.inl (slO_of (Or.inl rfl))))
    have hk : oK P w nt X o < xN X := outL_lt _ _ (getD_mem ho)
    have hroom : oK P w nt X o * ((slA P w nc nl nt).length / 2) + (slA P w nc nl nt).length / 2 ≤ 740000 := (x5.2.2.2.2.1 _ hk).2.1
    have h834 : τ.1 83 4 = nI ((slA P w nc nl nt).length / 2) := by rw [ex, mS_o (by decide) (by decide) (by decide) (by decide)]; exact x5.2.1
    have h88 : τ.1 88 o = nI (oK P w nt X o * ((slA P w nc nl nt).length / 2)) := by rw [ex, mS_o (by decide) (by decide) (by decide) (by decide)]; exact (y3.2.2.2.2.1 o ho).1
    have hne : ¬ nI ((slA P w nc nl nt).length / 2) = 0 := by rw [show (0 : Int32) = nI 0 from rfl, n_EQ (by omega) (by omega)]; omega
    have e185 : qev en (d + 2) 185 [.ref 70, .int (nI o)] τ = some (some (.int (nI (oK P w nt X o))), τ) := by
      refine le_X10_stateOfOutcome en _ _ _ _ ?_
      rw [h834, if_neg (by rw [show (0 : Int32) = nI 0 from rfl, n_LE (by omega) (by omega)]; omega), gd_true (n_in (by omega) (by decide)), gd_true hne, n_cl (by omega), h88, n_dv (by omega) (by omega), Nat.mul_div_cancel _ (by omega)]
    refine ⟨nI (oK P w nt X o), τ, le_X11_outcome en _ _ _ _ _ ?_, le_X12_outcome en _ _ _ _ _ ?_, hx, fun _ _ => rfl, rfl⟩
    · rw [e1, bI_some, if_pos (by decide), sw3, if_neg hq0t, if_pos (show (1 : Int32).toInt = 1 by decide), e185, bI_some]
    · rw [e2, bI_some, if_pos (by decide), if_pos (by decide), if_pos (by decide), if_neg (fun z => z rfl), gd_true (n_in (by omega) (by decide)), n_cl (by omega), e221]
  · have hq1t : ¬ q.toInt = 1 := fun z => q1 (Int32.toInt_inj.mp z)
    refine ⟨-1, τ, le_X11_outcome en _ _ _ _ _ ?_, le_X12_outcome en _ _ _ _ _ ?_, hx, fun _ _ => rfl, rfl⟩
    · rw [e1, bI_some, if_pos (by decide), sw3, if_neg hq0t, if_neg hq1t, if_neg hqt]
    · rw [e2, bI_some, if_pos (by decide), if_pos hq, if_pos q0, if_pos q1]
end OU
