/-! ALL TURNS, both sides: cells and locals of outcomes. -/
section OV
variable {en : pN} {d d' w nc nl nt n p o j : Nat} {P : Nat → fI} {τ σ : qS} {X : xT} {fw : Bool} {a q : Int32}
theorem m_widthX (hw2 : w ≤ 2) (h99 : σ.1 151 99 = nI w) : qev en (d + 2) 369 [.ref 151] σ = some (some (.int (nI (wid w))), σ) := by
  have e : qev en (d + 1) 299 [.int (nI w)] σ = some (some (.int (nI (wid w))), σ) := m_width hw2
  refine le_X12_widthExplored en _ _ _ ?_
  rw [h99, e, bI_some]
theorem outcomeCell_alike (hP : PV P nc nl nt n) (hw2 : w ≤ 2) (hX : XV P w nc nl nt n X) (hx : EXx P w nc nl nt n p fw X τ) (hm : EXm P w nc nl nt n fw X σ) (h11 : τ.1 11 9 = nI nc) : ∃ (r : Int32) (τ' : qS), qev en (d + 3) 223 [.ref 0, .int a, .int q] τ = some (some (.int r), τ') ∧ qev en (d' + 3) 371 [.ref 151, .int a, .int q] σ = some (some (.int r), σ) ∧ EXx P w nc nl nt n p fw X τ' ∧ (∀ c, c ≠ 72 → τ'.1 c = τ.1 c) ∧ τ'.2 = τ.2 := by
  have hc8 := hP.1.2
  have hlim := @lim_le w
  have hxN := hX.1.2
  have hwd := wid_w hw2
  have hwg := wid_ge (w := w)
  rcases hasOut_alike (en := en) (d := d + 1) (d' := d' + 1) (a := a) hX hx hm with ⟨e1, e2⟩ | ⟨o, ho, rfl, e1, e2⟩
  · refine ⟨-1000, τ, le_X11_outcomeCell en _ _ _ _ _ ?_, le_X12_outcomeCell en _ _ _ _ _ ?_, hx, fun _ _ => rfl, rfl⟩
    · rw [e1, bI_some, if_pos rfl]
    · rw [e2, bI_some, if_pos rfl]
  have hl := outL_len (P := P) (w := w) (nt := nt) (S := xS X) (xN X)
  obtain ⟨ρ', F', s', y', g', D', em, ⟨-, m2, m3, -⟩, ⟨-, -, -, n4, -, -, -⟩, -, k98, k99, -⟩ := id hm
  have e12 : σ.1 151 12 = nI nc := by rw [em, mM_F]; exact m2.1
  by_cases h0 : q < 0
  · refine ⟨-1000, τ, le_X11_outcomeCell en _ _ _ _ _ ?_, le_X12_outcomeCell en _ _ _ _ _ ?_, hx, fun _ _ => rfl, rfl⟩
    · rw [e1, bI_some, if_neg (by decide), x_hasC0 (d := d + 1) rfl h11 (by omega) (Or.inl h0), bI_some, if_pos rfl]
    · rw [e2, bI_some, if_neg (by decide), if_pos h0]
  obtain ⟨c, hc, rfl⟩ := nI_of h0
  by_cases h1 : c < nc
  rotate_left
  · refine ⟨-1000, τ, le_X11_outcomeCell en _ _ _ _ _ ?_, le_X12_outcomeCell en _ _ _ _ _ ?_, hx, fun _ _ => rfl, rfl⟩
    · rw [e1, bI_some, if_neg (by decide), x_hasC0 (d := d + 1) rfl h11 (by omega) (Or.inr ⟨c, hc, rfl, by omega⟩), bI_some, if_pos rfl]
    · rw [e2, bI_some, if_neg (by decide), if_neg h0, e12, if_neg (by rw [n_LT (by omega) (by omega)]; exact h1)]
  have hk : oK P w nt X o < xN X := outL_lt _ _ (getD_mem ho)
  have e221 : σ.1 221 o = nI (oK P w nt X o) := by rw [em, mM_o (by decide) (by decide) (by decide) (by decide)]; exact (n4.2.1 o ho).1
  have hroom := rm_room (n := xN X) (k := oK P w nt X o) (W := wid w) (by omega) (by
    rcases hwd.2 with z | z
    · exact Or.inl z
    · right; rw [z] at hxN; exact hxN) hwd.1 hk
  have e99 : σ.1 151 99 = nI w := by rw [em, mM_F]; exact k99
  have e210 : σ.1 210 (oK P w nt X o * wid w + 44 + c) = xS X (oK P w nt X o) (48 + c) := by
    rw [em, mM_o (by decide) (by decide) (by decide) (by decide), Nat.add_assoc, m3.2.2.2 _ hk _ (by omega)]
    have := mr_tm (w := w) (N := xS X (oK P w nt X o)) (s := sm w (xS X (oK P w nt X o))) (j := 44 + c) (fun _ _ => rfl) (by omega) (by omega)
    show sm w (xS X (oK P w nt X o)) (44 + c) = _
    rw [this, show 44 + c + 4 = 48 + c by omega]
  obtain ⟨τ', s1, s2, s3, s4⟩ := x_slotOf (en := en) (d := d) (j := 48 + c) hP hX hx ho (by omega)
  rw [if_neg (by omega)] at s1
  refine ⟨xS X (oK P w nt X o) (48 + c), τ', le_X11_outcomeCell en _ _ _ _ _ ?_, le_X12_outcomeCell en _ _ _ _ _ ?_, s2, s3, s4⟩
  · rw [e1, bI_some, if_neg (by decide), x_hasC1 (d := d + 1) rfl h11 h1 (by omega), bI_some, if_neg (by decide), n_al, s1, bI_some]
  · rw [e2, bI_some, if_neg (by decide), if_neg h0, e12, if_pos (by rw [n_LT (by omega) (by omega)]; exact h1), gd_true (n_in (by omega) (by decide)), m_widthX (d := d') hw2 e99, bI_some, n_cl (by omega), e221, n_mul, n_ar, nI_add, gd_true (n_in (by omega) (by decide)), n_cl (by omega), e210]
end OV
