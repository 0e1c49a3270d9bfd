/-! ALL TURNS, both sides: outcomes. -/
section OU
variable {en : pN} {d d' w nc nl nt n p o j : Nat} {P : Nat → fI} {τ σ : qS} {X : xT} {fw : Bool} {a q : Int32}
theorem n_dv {z m : Nat} (hz : z < 2 ^ 31) (hm : m < 2 ^ 31) : nI z / nI m = nI (z / m) := by
  have hd : z / m < 2 ^ 31 := Nat.lt_of_le_of_lt (Nat.div_le_self z m) hz
  refine Int32.toInt_inj.mp ?_
  rw [Int32.toInt_div, n_to hz, n_to hm, n_to hd, ← Int.ofNat_tdiv]
  generalize z / m = k at hd
  exact Int.bmod_eq_of_le (by omega) (by omega)
noncomputable abbrev oK (P : Nat → fI) (w nt : Nat) (X : xT) (o : Nat) : Nat := (outL P w nt (xS X) (xN X)).getD o 0
theorem x_slotOf (hP : PV P nc nl nt n) (hX : XV P w nc nl nt n X) (hx : EXx P w nc nl nt n p fw X τ) (ho : o < (outL P w nt (xS X) (xN X)).length) (hj : j ≤ 233) : ∃ τ' : qS, qev en (d + 2) 186 [.ref 70, .int (nI o), .int (nI j)] τ = some (some (.int (if j = 233 then nI (soS (xS X (oK P w nt X o)) nt) else xS X (oK P w nt X o) j)), τ') ∧ EXx P w nc nl nt n p fw X τ' ∧ (∀ c, c ≠ 72 → τ'.1 c = τ.1 c) ∧ τ'.2 = τ.2 := by
  obtain ⟨ρ, F, N, G, b, rfl, hf, hN, hN5⟩ := hx
  have hf' := hf
  obtain ⟨⟨⟨x1, x2, x3, x4, x5, x6, x7, x8, x9⟩, ⟨y1, y2, y3, y4, y5, y6, y7, y8⟩, -, y10⟩, z1, z2⟩ := hf
  obtain ⟨⟨h0, h1⟩, hS, -⟩ := hX
  have hlim := @lim_le w
  have hk : oK P w nt X o < xN X := outL_lt _ _ (getD_mem ho)
  have hl := outL_len (P := P) (w := w) (nt := nt) (S := xS X) (xN X)
  have hSk := hS _ hk
  have hrow := x5.2.2.2.2.1 _ hk
  have hroom : oK P w nt X o * ((slA P w nc nl nt).length / 2) + (slA P w nc nl nt).length / 2 ≤ 740000 := hrow.2.1
  obtain ⟨N1, e1, n1, n2⟩ := x_unpack (en := en) (d := d) (a := 84) (f := oK P w nt X o * ((slA P w nc nl nt).length / 2)) (M := cnS nt (xS X (oK P w nt X o))) (N := N) (b := b) (G := G) (F := F) (Or.inl rfl) (xb_lm x1) x2 rfl hroom (by decide) (fun j hj => hrow.2.2 j hj)
  have hN1 : eqS N1 (xS X (oK P w nt X o)) := fun j hj => by
    by_cases q : j ∈ slA P w nc nl nt
    · rw [n1 j q]; exact if_pos hj
    · have q' : ¬ slP P w nc nl nt j := fun z => q (slA_of z)
      rw [n2 j q, SV_cst hP hN hj q', SV_cst hP hSk hj q']
  have hN15 : N1 235 = 0 := by
    by_cases q : 235 ∈ slA P w nc nl nt
    · rw [n1 235 q]; rfl
    · rw [n2 235 q]; exact hN5
  have hN13 : N1 233 = nI (soS (xS X (oK P w nt X o)) nt) := by
    rw [n1 233 (slA_of (Or.inl (slO_of (Or.inl rfl))))]; rfl
  refine ⟨mS ρ 71 F N1 b G, le_X10_slotOfOutcome en _ _ _ _ _ ?_, ⟨ρ, F, N1, G, b, rfl, hf', SV_eqS hP hN1 hSk, hN15⟩, fun c hc => ?_, rfl⟩
  · have e88 : (mS ρ 71 F N b G).1 88 o = nI (oK P w nt X o * ((slA P w nc nl nt).length / 2)) := by
      rw [mS_o (by decide) (by decide) (by decide) (by decide)]
      exact (y3.2.2.2.2.1 o ho).1
    rw [gd_true (n_in (by omega) (by decide)), n_cl (by omega), e88, e1, bV_some, gd_true (n_in (by omega) (by decide)), n_cl (by omega), show (mS ρ 71 F N1 b G).1 72 = N1 from mS_n (m := 71)]
    by_cases q : j = 233
    · rw [if_pos q, q, hN13]
    · rw [if_neg q, hN1 j (by omega)]
  · by_cases q : c = 71
    · rw [q, mS_m, mS_m]
    by_cases q2 : c = 10
    · rw [q2]; rfl
    by_cases q3 : c = 7
    · rw [q3]; rfl
    · rw [mS_o q hc q2 q3, mS_o q hc q2 q3]
end OU

