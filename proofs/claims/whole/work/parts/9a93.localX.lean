/-! ALL TURNS, both sides: locals of outcomes. -/
section OW
variable {en : pN} {d d' w nc nl nt n p o j : Nat} {P : Nat → fI} {τ σ : qS} {X : xT} {fw : Bool} {a q z : Int32}
theorem outcomeLocal_alike (hP : PV P nc nl nt n) (hw2 : w ≤ 2) (hX : XV P w nc nl nt n X) (hx : EXx P w nc nl nt n p fw X τ) (hm : EXm P w nc nl nt n fw X σ) (h11 : τ.1 11 11 = nI nt) (h14 : ∀ t, t < nt → τ.1 14 t = nI (lct P t)) (h18 : σ.1 151 18 = nI nt) (h159 : ∀ t, t < nt → σ.1 159 t = nI (lct P t)) : ∃ (r : Int32) (τ' : qS), qev en (d + 4) 224 [.ref 0, .int a, .int q, .int z] τ = some (some (.int r), τ') ∧ qev en (d' + 3) 372 [.ref 151, .int a, .int q, .int z] σ = some (some (.int r), σ) ∧ EXx P w nc nl nt n p fw X τ' ∧ (∀ c, c ≠ 72 → τ'.1 c = τ.1 c) ∧ τ'.2 = τ.2 := by
  have ht4 := hP.2.2.1.2
  have hlim := @lim_le w
  have hxN := hX.1.2
  have hwd := wid_w hw2
  have hwg := wid_ge (w := w)
  rcases hasOut_alike (en := en) (d := d + 2) (d' := d' + 1) (a := a) hX hx hm with ⟨e1, e2⟩ | ⟨o, ho, rfl, e1, e2⟩
  · refine ⟨-1000, τ, le_X11_outcomeLocal en _ _ _ _ _ _ ?_, le_X12_outcomeLocal en _ _ _ _ _ _ ?_, hx, fun _ _ => rfl, rfl⟩
    · rw [e1, bI_some, if_pos rfl]
    · rw [e2, bI_some, if_pos rfl]
  have hl := outL_len (P := P) (w := w) (nt := nt) (S := xS X) (xN X)
  obtain ⟨ρ', F', s', y', g', D', em, ⟨-, m2, m3, -⟩, ⟨-, -, -, n4, -, -, -⟩, -, k98, k99, -⟩ := id hm
  -- the thread
  have t0 : ∀ r, qev en (d + 3) 93 [.ref 11, .int q, .int z] τ = some (some (.int 0), τ) → r = some (some (Value.int (-1000)), τ) → qev en (d + 4) 224 [.ref 0, .int (nI o), .int q, .int z] τ = r := fun r h hr => by
    subst hr
    refine le_X11_outcomeLocal en _ _ _ _ _ _ ?_
    rw [e1, bI_some, if_neg (by decide), h, bI_some, if_pos rfl]
  have l93 : ∀ r v, qev en (d + 2) 92 [.ref 11, .int q] τ = some (some (.int v), τ) → (if v = (0 : Int32) then some (some (Value.int (0 : Int32)), τ) else if z < (0 : Int32) then some (some (.int (0 : Int32)), τ) else gd (p_inB q 4 = true) (if (τ.1 14 q.toNatClampNeg) ≤ z then some (some (.int (0 : Int32)), τ) else some (some (.int (1 : Int32)), τ))) = r → r ≠ none → qev en (d + 3) 93 [.ref 11, .int q, .int z] τ = r := fun r v h hr hn => by
    cases r with
    | none => exact absurd rfl hn
    | some r =>
      refine le_X5_hasLocal en _ _ _ _ _ _ ?_
      rw [gd_true (show lc 11 = 5 from rfl), h, bI_some]
      exact hr
  have none0 : (q < 0 ∨ ∃ c, c < 2 ^ 31 ∧ q = nI c ∧ nt ≤ c) → qev en (d + 2) 92 [.ref 11, .int q] τ = some (some (.int 0), τ) ∧ qev en (d' + 2) 336 [.ref 151, .int q] σ = some (some (.int 0), σ) := fun h => by
    refine ⟨le_X5_hasThread en _ _ _ _ _ ?_, le_X12_isThread en _ _ _ _ ?_⟩
    · rw [gd_true (show lc 11 = 5 from rfl), h11]
      rcases h with h | ⟨c, h1, rfl, h2⟩
      · rw [if_pos h]
      · rw [if_neg (nI_pos h1), if_pos (by rw [n_LE (by omega) h1]; exact h2)]
    · rw [h18]
      rcases h with h | ⟨c, h1, rfl, h2⟩
      · rw [if_pos h]
      · rw [if_neg (nI_pos h1), if_pos (by rw [n_LE (by omega) h1]; exact h2)]
  have out : (q < 0 ∨ ∃ c, c < 2 ^ 31 ∧ q = nI c ∧ nt ≤ c) → ∃ (r : Int32) (τ' : qS), qev en (d + 4) 224 [.ref 0, .int (nI o), .int q, .int z] τ = some (some (.int r), τ') ∧ qev en (d' + 3) 372 [.ref 151, .int (nI o), .int q, .int z] σ = some (some (.int r), σ) ∧ EXx P w nc nl nt n p fw X τ' ∧ (∀ c, c ≠ 72 → τ'.1 c = τ.1 c) ∧ τ'.2 = τ.2 := fun h => by
    obtain ⟨n1, n2⟩ := none0 h
    refine ⟨-1000, τ, t0 _ (l93 _ 0 n1 (if_pos rfl) (fun z => (by cases z))) rfl, le_X12_outcomeLocal en _ _ _ _ _ _ ?_, hx, fun _ _ => rfl, rfl⟩
    rw [e2, bI_some, if_neg (by decide), n2, bI_some, if_pos rfl]
  by_cases h0 : q < 0
  · exact out (Or.inl h0)
  obtain ⟨t, ht, rfl⟩ := nI_of h0
  by_cases h1 : t < nt
  rotate_left
  · exact out (Or.inr ⟨t, ht, rfl, by omega⟩)
  have x92 : qev en (d + 2) 92 [.ref 11, .int (nI t)] τ = some (some (.int 1), τ) := by
    refine le_X5_hasThread en _ _ _ _ _ ?_
    rw [gd_true (show lc 11 = 5 from rfl), h11, if_neg h0, if_neg (by rw [n_LE (by omega) (by omega)]; omega)]
  have m336 : qev en (d' + 2) 336 [.ref 151, .int (nI t)] σ = some (some (.int 1), σ) := by
    refine le_X12_isThread en _ _ _ _ ?_
    rw [h18, if_neg h0, if_neg (by rw [n_LE (by omega) (by omega)]; omega)]
  by_cases hz0 : z < 0
  · refine ⟨-1000, τ, t0 _ (l93 _ 1 x92 (by rw [if_neg (by decide), if_pos hz0]) (fun z => (by cases z))) rfl, le_X12_outcomeLocal en _ _ _ _ _ _ ?_, hx, fun _ _ => rfl, rfl⟩
    rw [e2, bI_some, if_neg (by decide), m336, bI_some, if_neg (by decide), if_pos hz0]
  obtain ⟨v, hv, rfl⟩ := nI_of hz0
  have hlc := (hP.2.2.2.2.2 t h1).2.2
  have sm2 : ∀ r, L_X12_outcomeLocal_38 en (d' + 2) (nI o) (nI t) (nI v) (nI v) (nI t) σ = some r → qev en (d' + 3) 372 [.ref 151, .int (nI o), .int (nI t), .int (nI v)] σ = some r := fun r hh => by
    refine le_X12_outcomeLocal en _ _ _ _ _ _ ?_
    rw [e2, bI_some, if_neg (by decide), m336, bI_some, if_neg (by decide), if_neg hz0, m336, bI_some, if_neg (by decide)]
    exact hh
  by_cases h2 : v < lct P t
  rotate_left
  · refine ⟨-1000, τ, t0 _ (l93 _ 1 x92 (by rw [if_neg (by decide), if_neg hz0, gd_true (n_in (by omega) (by decide)), n_cl (by omega), h14 t h1, if_pos (by rw [n_LE (by omega) (by omega)]; omega)]) (fun z => (by cases z))) rfl, sm2 _ (le_X12_outcomeLocal_38 en _ _ _ _ _ _ _ _ ?_), hx, fun _ _ => rfl, rfl⟩
    rw [gd_true (n_in (by omega) (by decide)), n_cl (by omega), h159 t h1, if_neg (by rw [n_LT (by omega) (by omega)]; exact h2)]
  have hk : oK P w nt X o < xN X := outL_lt _ _ (getD_mem ho)
  have e221 : σ.1 221 o = nI (oK P w nt X o) := by rw [em, mM_o (by decide) (by decide) (by decide) (by decide)]; exact (n4.2.1 o ho).1
  have hroom := rm_room (n := xN X) (k := oK P w nt X o) (W := wid w) (by omega) (by
    rcases hwd.2 with z | z
    · exact Or.inl z
    · right; rw [z] at hxN; exact hxN) hwd.1 hk
  have e99 : σ.1 151 99 = nI w := by rw [em, mM_F]; exact k99
  have e210 : σ.1 210 (oK P w nt X o * wid w + 12 + 6 * t + v) = xS X (oK P w nt X o) (16 + t * 6 + v) := by
    rw [em, mM_o (by decide) (by decide) (by decide) (by decide), Nat.add_assoc, Nat.add_assoc, m3.2.2.2 _ hk _ (by omega)]
    have := mr_lo (w := w) (N := xS X (oK P w nt X o)) (s := sm w (xS X (oK P w nt X o))) (j := 12 + (6 * t + v)) (fun _ _ => rfl) (by omega) (by omega)
    show sm w (xS X (oK P w nt X o)) (12 + (6 * t + v)) = _
    rw [this, show 12 + (6 * t + v) + 4 = 16 + t * 6 + v by omega]
  obtain ⟨τ', s1, s2, s3, s4⟩ := x_slotOf (en := en) (d := d + 1) (j := 16 + t * 6 + v) hP hX hx ho (by omega)
  rw [if_neg (by omega)] at s1
  refine ⟨xS X (oK P w nt X o) (16 + t * 6 + v), τ', le_X11_outcomeLocal en _ _ _ _ _ _ ?_, sm2 _ (le_X12_outcomeLocal_38 en _ _ _ _ _ _ _ _ ?_), s2, s3, s4⟩
  · have e32 : qev en (d + 3) 32 [.int (nI t), .int (nI v)] τ = some (some (.int (nI (16 + t * 6 + v))), τ) := by
      refine le_X3_localSlot en _ _ _ _ _ ?_
      rw [n_mr, n_al, nI_add]
    rw [e1, bI_some, if_neg (by decide), l93 _ 1 x92 (by rw [if_neg (by decide), if_neg hz0, gd_true (n_in (by omega) (by decide)), n_cl (by omega), h14 t h1, if_neg (by rw [n_LE (by omega) (by omega)]; omega)]) (fun z => (by cases z)), bI_some, if_neg (by decide), e32, bI_some, s1, bI_some]
  · rw [gd_true (n_in (by omega) (by decide)), n_cl (by omega), h159 t h1, if_pos (by rw [n_LT (by omega) (by omega)]; exact h2), gd_true (n_in (by omega) (by decide)), m_widthX (d := d') hw2 e99, bI_some, n_cl (by omega), e221, n_mul, n_ar, n_ml, nI_add, nI_add, gd_true (n_in (by omega) (by decide)), n_cl (by omega), e210]
end OW
