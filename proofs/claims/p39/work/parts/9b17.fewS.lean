/-! SWITCHES, both sides. -/
/-- what stays told of switches, the class's side, the model's -/
abbrev swx (P : Nat → fI) (w nt : Nat) (X : xT) (τ : qS) : Prop := τ.1 70 19 = 0 ∨ (τ.1 70 19 = 1 ∧ ∃ T : Nat → Nat, (∀ j, j < 80000 → τ.1 96 j = nI (T j)) ∧ grT P w nt X 200000 (fun k l => T (4 * k + l)))
section SWB
variable {en : pN} {d d' w nc nl nt n p o k s M : Nat} {P : Nat → fI} {τ σ : qS} {X : xT} {fw : Bool} {a q : Int32} {S : Nat → fI} {T : Nat → Nat}
theorem outL_end : ∀ M, ∀ k ∈ outL P w nt S M, endC P w (S k) nt = true := by
  intro M
  induction M with
  | zero => intro k h; exact absurd h List.not_mem_nil
  | succ M ih =>
    intro k h
    have e1 : outL P w nt S (M + 1) = if endC P w (S M) nt = true then (match fndO nt S (S M) (outL P w nt S M) 0 with
      | some _ => outL P w nt S M
      | none => outL P w nt S M ++ [M]) else outL P w nt S M := rfl
    rw [e1] at h
    by_cases q : endC P w (S M) nt = true
    · rw [if_pos q] at h
      cases hf : fndO nt S (S M) (outL P w nt S M) 0 with
      | some i => rw [hf] at h; exact ih k h
      | none =>
        rw [hf] at h
        rcases List.mem_append.mp h with h | h
        · exact ih k h
        · rw [List.mem_singleton.mp h]; exact q
    · rw [if_neg q] at h; exact ih k h
/-- the first state of an outcome has it -/
theorem out_first (ho : o < (outL P w nt S M).length) : (outL P w nt S M).getD o 0 < M ∧ endC P w (S ((outL P w nt S M).getD o 0)) nt = true ∧ outN P w nt S ((outL P w nt S M).getD o 0) = o := by
  have h1 := outL_lt _ _ (getD_mem ho)
  have h2 := outL_end (P := P) (w := w) (nt := nt) (S := S) M _ (getD_mem ho)
  obtain ⟨a, b⟩ := out_at (P := P) (w := w) (nt := nt) (S := S) h1 h2
  exact ⟨h1, h2, outL_unl M _ _ a ho b⟩
/-- and is the least that has it -/
theorem first_le (hs : s < M) (he : endC P w (S s) nt = true) (hn : outN P w nt S s = o) : (outL P w nt S M).getD o 0 ≤ s := by
  obtain ⟨a, -⟩ := out_at (P := P) (w := w) (nt := nt) (S := S) (Nat.lt_succ_self s) he
  rw [hn] at a
  obtain ⟨L', e⟩ := outL_ext (P := P) (w := w) (nt := nt) (S := S) (M - (s + 1)) (s + 1)
  rw [show s + 1 + (M - (s + 1)) = M by omega] at e
  rw [e, List.getD_eq_getElem?_getD, List.getElem?_append_left a, ← List.getD_eq_getElem?_getD]
  have := outL_lt _ _ (getD_mem a)
  omega
theorem x_stOut (hP : PV P nc nl nt n) (hX : XV P w nc nl nt n X) (hx : EXx P w nc nl nt n p fw X τ) (ho : o < (outL P w nt (xS X) (xN X)).length) : qev en (d + 1) 185 [.ref 70, .int (nI o)] τ = some (some (.int (nI (oK P w nt X o))), τ) := by
  obtain ⟨fx, -, -⟩ := hx.flat
  have x5 := fx.1.1.2.2.2.2.1
  have y3 := fx.1.2.1.2.2.1
  have x2 := fx.1.1.2.1
  have hlim := @lim_le w
  have hxN := hX.1.2
  have hA := slA_len (w := w) hP
  have hpos : 0 < (slA P w nc nl nt).length := List.length_pos_of_mem (slA_of (Or.inl (slO_of (Or.inl rfl))))
  have hk : oK P w nt X o < xN X := outL_lt _ _ (getD_mem ho)
  have hroom : oK P w nt X o * ((slA P w nc nl nt).length / 2) + (slA P w nc nl nt).length / 2 ≤ 740000 := (x5.2.2.2.2.1 _ hk).2.1
  have h834 : τ.1 83 4 = nI ((slA P w nc nl nt).length / 2) := x5.2.1
  have h88 : τ.1 88 o = nI (oK P w nt X o * ((slA P w nc nl nt).length / 2)) := (y3.2.2.2.2.1 o ho).1
  have hev := x2.2.2.1
  have hol := outL_len (P := P) (w := w) (nt := nt) (S := xS X) (xN X)
  have hne : ¬ nI ((slA P w nc nl nt).length / 2) = 0 := by rw [show (0 : Int32) = nI 0 from rfl, n_EQ (by omega) (by omega)]; omega
  refine le_X10_stateOfOutcome en _ _ _ _ ?_
  rw [h834, if_neg (by rw [show (0 : Int32) = nI 0 from rfl, n_LE (by omega) (by omega)]; omega), gd_true (n_in (by omega) (by decide)), gd_true hne, n_cl (by omega), h88, n_dv (by omega) (by omega), Nat.mul_div_cancel _ (by omega)]
/-- a state with the outcome o -/
abbrev gdO (P : Nat → fI) (w nt : Nat) (X : xT) (o s : Nat) : Prop := endC P w (xS X s) nt = true ∧ outN P w nt (xS X) s = o
theorem x_mk8 (hP : PV P nc nl nt n) (hX : XV P w nc nl nt n X) (hE : swE P w nt X τ) (hs : s < xN X) (ho : o < 20000) : ((τ.1 93 s) >>> ((8 : Int32) &&& 31) = nI o + (1 : Int32)) ↔ gdO P w nt X o s := by
  have hlim := @lim_le w
  have hxN := hX.1
  have hSk := hX.2.1 s hs
  have h40 : ∀ a ∈ rdl P w (xS X s) nt nt, a < 40 := fun a ha => rdl_lt hP hSk ha
  have hon : outN P w nt (xS X) s < 2 ^ 20 := by
    by_cases q : endC P w (xS X s) nt = true
    · have := (out_at (P := P) (w := w) (nt := nt) (S := xS X) hs q).1
      have := outL_len (P := P) (w := w) (nt := nt) (S := xS X) (xN X)
      omega
    · have e : outN P w nt (xS X) s = (match fndO nt (xS X) (xS X s) (outL P w nt (xS X) s) 0 with
        | some i => i
        | none => (outL P w nt (xS X) s).length) := rfl
      have hle := outL_len (P := P) (w := w) (nt := nt) (S := xS X) s
      rw [e]
      cases hf : fndO nt (xS X) (xS X s) (outL P w nt (xS X) s) 0 with
      | some i =>
        have := (fndO_some _ _ _ hf).2.1
        show i < 2 ^ 20
        omega
      | none =>
        show (outL P w nt (xS X) s).length < 2 ^ 20
        omega
  have hmk := mrkN_lt (b := xWh X s) (so := soS (xS X s) nt) h40 hon
  have e8 := mrkN_8 (b := xWh X s) (so := soS (xS X s) nt) (o := outN P w nt (xS X) s) h40
  rw [hE.2.2 s hs, show (8 : Int32) = nI 8 from rfl, shr_nI (by decide) (by omega), show (2 : Nat) ^ 8 = 256 from rfl, e8, show nI o + (1 : Int32) = nI (o + 1) from n_ar]
  by_cases q : rdl P w (xS X s) nt nt = []
  · rw [if_pos q, n_EQ (by omega) (by omega)]
    exact ⟨fun z => ⟨decide_eq_true q, by omega⟩, fun z => by rw [z.2]⟩
  · rw [if_neg q, n_EQ (by omega) (by omega)]
    exact ⟨fun z => by omega, fun z => absurd (of_decide_eq_true z.1) q⟩
theorem x_few (hP : PV P nc nl nt n) (hX : XV P w nc nl nt n X) (hE : swE P w nt X τ) (hN : τ.1 83 3 = nI (xN X)) (ho : o < 20000) (h96 : ∀ j, j < 80000 → τ.1 96 j = nI (T j)) (hT : ∀ j, j < 4 * xN X → T j ≤ 200000) :
    ∀ (m s v : Nat), s + m = xN X → v ≤ 200000 → ∃ r, r ≤ v ∧ (∀ s' t, s ≤ s' → s' < xN X → gdO P w nt X o s' → t < 4 → r ≤ T (4 * s' + t)) ∧ (r = v ∨ ∃ s' t, s ≤ s' ∧ s' < xN X ∧ gdO P w nt X o s' ∧ t < 4 ∧ T (4 * s' + t) = r) ∧ L_X10_fewestSwitches_34 en (d + 1) (nI o) (nI v) (nI s) τ = some (some (.int (nI r)), τ) := by
  have hlim := @lim_le w
  have hxN := hX.1
  intro m
  induction m with
  | zero =>
    intro s v hs hv
    refine ⟨v, Nat.le_refl _, fun s' t a b => by omega, Or.inl rfl, le_X10_fewestSwitches_34 en _ _ _ _ _ _ ?_⟩
    rw [hN, if_pos (by rw [n_LE (by omega) (by omega)]; omega)]
  | succ m ih =>
    intro s v hs hv
    have ez : nI s + (1 : Int32) = nI (s + 1) := n_ar
    have go : ∀ r v, L_X10_fewestSwitches_49 en (d + 1) (nI o) (nI v) (nI s) 0 τ = some r → L_X10_fewestSwitches_34 en (d + 1) (nI o) (nI v) (nI s) τ = some r := fun r v h => by
      refine le_X10_fewestSwitches_34 en _ _ _ _ _ _ ?_
      rw [hN, if_neg (by rw [n_LE (by omega) (by omega)]; omega)]
      exact h
    by_cases q : gdO P w nt X o s
    rotate_left
    · obtain ⟨r, a, b, c, e⟩ := ih (s + 1) v (by omega) hv
      refine ⟨r, a, fun s' t h1 h2 h3 h4 => ?_, ?_, go _ _ (le_X10_fewestSwitches_49 en _ _ _ _ _ _ _ ?_)⟩
      · by_cases z : s' = s
        · rw [z] at h3; exact absurd h3 q
        · exact b s' t (by omega) h2 h3 h4
      · rcases c with c | ⟨s', t, h1, h2⟩
        · exact Or.inl c
        · exact Or.inr ⟨s', t, by omega, h2⟩
      · rw [if_neg (by decide), gd_true (n_in (by omega) (by decide)), n_cl (by omega), if_pos (fun z => q ((x_mk8 hP hX hE (by omega) ho).mp z)), ez]
        exact e
    have e49 : ∀ t v r, t < 4 → v ≤ 200000 → L_X10_fewestSwitches_49 en (d + 1) (nI o) (nI (min v (T (4 * s + t)))) (nI s) (nI (t + 1)) τ = some r → L_X10_fewestSwitches_49 en (d + 1) (nI o) (nI v) (nI s) (nI t) τ = some r := fun t v r ht hv h => by
      have := hT (4 * s + t) (by omega)
      refine le_X10_fewestSwitches_49 en _ _ _ _ _ _ _ ?_
      rw [if_neg (by rw [show (4 : Int32) = nI 4 from rfl, n_LE (by omega) (by omega)]; omega), gd_true (n_in (by omega) (by decide)), n_cl (by omega), if_neg (not_not_intro ((x_mk8 hP hX hE (by omega) ho).mpr q)), n_mr, nI_add, show s * (OfNat.ofNat 4 : Nat) + t = 4 * s + t by show s * 4 + t = _; omega, gd_true (n_in (by omega) (by decide)), n_cl (by omega), h96 _ (by omega), x_minN (by omega) (by omega), bI_some, show nI t + (1 : Int32) = nI (t + 1) from n_ar]
      exact h
    have e4 : ∀ v r, L_X10_fewestSwitches_34 en (d + 1) (nI o) (nI v) (nI (s + 1)) τ = some r → L_X10_fewestSwitches_49 en (d + 1) (nI o) (nI v) (nI s) (nI 4) τ = some r := fun v r h => by
      refine le_X10_fewestSwitches_49 en _ _ _ _ _ _ _ ?_
      rw [if_pos (by decide), ez]
      exact h
    obtain ⟨r, a, b, c, e⟩ := ih (s + 1) (min (min (min (min v (T (4 * s + 0))) (T (4 * s + 1))) (T (4 * s + 2))) (T (4 * s + 3))) (by omega) (by omega)
    refine ⟨r, by omega, fun s' t h1 h2 h3 h4 => ?_, ?_, go _ _ (e49 0 _ _ (by omega) hv (e49 1 _ _ (by omega) (by omega) (e49 2 _ _ (by omega) (by omega) (e49 3 _ _ (by omega) (by omega) (e4 _ _ e)))))⟩
    · by_cases z : s' = s
      · subst z
        have : t = 0 ∨ t = 1 ∨ t = 2 ∨ t = 3 := by omega
        rcases this with y | y | y | y <;> subst y <;> omega
      · exact b s' t (by omega) h2 h3 h4
    · rcases c with c | ⟨s', t, h1, h2⟩
      · have : r = v ∨ r = T (4 * s + 0) ∨ r = T (4 * s + 1) ∨ r = T (4 * s + 2) ∨ r = T (4 * s + 3) := by omega
        rcases this with y | y | y | y | y
        · exact Or.inl y
        · exact Or.inr ⟨s, 0, Nat.le_refl _, by omega, q, by omega, y.symm⟩
        · exact Or.inr ⟨s, 1, Nat.le_refl _, by omega, q, by omega, y.symm⟩
        · exact Or.inr ⟨s, 2, Nat.le_refl _, by omega, q, by omega, y.symm⟩
        · exact Or.inr ⟨s, 3, Nat.le_refl _, by omega, q, by omega, y.symm⟩
      · exact Or.inr ⟨s', t, by omega, h2⟩
/-- every state is come to by few switches -/
theorem gr_fin (hX : XV P w nc nl nt n X) (hJ : XJ X (xN X + 1)) {U : Nat → Nat → Nat} (hU : clT P w nt X U) : ∀ s, 1 ≤ s → s < xN X → ∃ t, t < 4 ∧ U s t ≤ s := by
  intro s
  induction s using Nat.strongRecOn with
  | ind s ih =>
    intro h1 h2
    obtain ⟨a1, a2, -, -⟩ := hX.2.2.2.2.2 s h1 h2
    obtain ⟨-, e, b1, b2, b3, b4⟩ := hJ.2.2 s h1 h2
    have b3 := b3 (by omega)
    have e1 : (xE X e).1 = s := by rw [b4]
    have e2 : (xE X e).2 = (xF X s).2 := by rw [b4]
    refine ⟨(xF X s).2 / 10, by omega, ?_⟩
    by_cases q : (xF X s).1 = 0
    · rw [q] at b1 b3
      have := hU.1 e b1 b3
      rw [e1, e2] at this
      omega
    · obtain ⟨t', ht', hle⟩ := ih (xF X s).1 a1 (by omega) (by omega)
      have := hU.2 (xF X s).1 (by omega) t' ht' e b1 b3
      rw [e1, e2] at this
      have hc : cstS P w nt X (xF X s).1 t' ((xF X s).2 / 10) ≤ 1 := by unfold cstS; split <;> omega
      omega
end SWB

