/-! ALL TURNS, both sides: schedule. -/
section SD
variable {en : pN} {d d' w nc nl nt n p o j : Nat} {P : Nat → fI} {τ σ : qS} {X : xT} {fw : Bool} {a q z : Int32}
abbrev fdM (X : xT) (σ : qS) : Prop := σ.1 212 0 = -2 ∧ ∀ i, 1 ≤ i → i < xN X → σ.1 212 i = nI (xF X i).1 ∧ σ.1 213 i = nI (xF X i).2 ∧ (xF X i).1 < i ∧ (xF X i).2 < 40
theorem uI_uu {r k : Nat} {x y : Int32} : uI (uI σ r k x) r k y = uI σ r k y := by
  refine Prod.ext (funext fun c => funext fun i => ?_) rfl
  rw [g_I, g_I, g_I]
  by_cases h : c = r ∧ i = k
  · rw [if_pos h, if_pos h]
  · rw [if_neg h, if_neg h, if_neg h]
theorem m_lay7 (h : fdM X σ) (hN : xN X ≤ 20000) {v1 : Int32} : ∀ m i c, i ≤ m → i < xN X → c + i < 20001 → ∀ r, L_X12_layPath_45 en d (nI (c + (pth (xF X) m i).length)) v1 (uI σ 151 128 (nI (c + (pth (xF X) m i).length))) = some r → L_X12_layPath_7 en d v1 (nI i) (uI σ 151 128 (nI c)) = some r := by
  have z0 : ∀ m c, ∀ r, L_X12_layPath_45 en d (nI (c + (pth (xF X) m 0).length)) v1 (uI σ 151 128 (nI (c + (pth (xF X) m 0).length))) = some r → L_X12_layPath_7 en d v1 (nI 0) (uI σ 151 128 (nI c)) = some r := by
    intro m c r hh
    have e : (pth (xF X) m 0).length = 0 := by cases m <;> rfl
    rw [e, Nat.add_zero] at hh
    refine le_X12_layPath_7 en _ _ _ _ _ ?_
    rw [gd_true (n_in (by omega) (by decide)), n_cl (by omega), uI_ne (by decide), h.1, if_pos rfl, g_I, if_pos ⟨rfl, rfl⟩]
    exact hh
  intro m
  induction m with
  | zero =>
    intro i c hi hiN hc r hh
    obtain rfl : i = 0 := by omega
    exact z0 0 c r hh
  | succ m ih =>
    intro i c hi hiN hc r hh
    by_cases q : i = 0
    · subst q; exact z0 _ c r hh
    obtain ⟨h1, h2, h3, h4⟩ := h.2 i (by omega) hiN
    have e : pth (xF X) (m + 1) i = (xF X i).2 :: pth (xF X) m (xF X i).1 := if_neg q
    rw [e, List.length_cons, show c + ((pth (xF X) m (xF X i).1).length + 1) = c + 1 + (pth (xF X) m (xF X i).1).length by omega] at hh
    refine le_X12_layPath_7 en _ _ _ _ _ ?_
    have p2 : ¬ nI (xF X i).1 = (-2 : Int32) := fun y => nI_pos (show (xF X i).1 < 2 ^ 31 by omega) (by rw [y]; decide)
    have e128 : (uI σ 151 128 (nI c)).1 151 128 = nI c := by rw [g_I, if_pos ⟨rfl, rfl⟩]
    have e212 : ∀ y, (uI σ 151 128 y).1 212 i = nI (xF X i).1 := fun y => by rw [uI_ne (by decide), h1]
    rw [gd_true (n_in (by omega) (by decide)), n_cl (by omega), e212, if_neg p2, e128, n_ar, nm_eq, uI_uu, e212, nm_eq]
    exact ih (xF X i).1 (c + 1) (by omega) (by omega) (by omega) r hh
theorem m_lay45 (h : fdM X σ) (hN : xN X ≤ 20000) : ∀ m i (T : fI), i ≤ m → i < xN X → ∃ T' : fI, L_X12_layPath_45 en d (nI (pth (xF X) m i).length) (nI i) (uIr σ 230 T) = some (none, uIr σ 230 T') ∧ (∀ j, j < (pth (xF X) m i).length → T' ((pth (xF X) m i).length - 1 - j) = nI ((pth (xF X) m i).getD j 0)) ∧ ∀ j, (pth (xF X) m i).length ≤ j → T' j = T j := by
  have z0 : ∀ m (T : fI), ∃ T' : fI, L_X12_layPath_45 en d (nI (pth (xF X) m 0).length) (nI 0) (uIr σ 230 T) = some (none, uIr σ 230 T') ∧ (∀ j, j < (pth (xF X) m 0).length → T' ((pth (xF X) m 0).length - 1 - j) = nI ((pth (xF X) m 0).getD j 0)) ∧ ∀ j, (pth (xF X) m 0).length ≤ j → T' j = T j := by
    intro m T
    have e : (pth (xF X) m 0).length = 0 := by cases m <;> rfl
    refine ⟨T, le_X12_layPath_45 en _ _ _ _ _ ?_, fun j hj => absurd hj (by omega), fun _ _ => rfl⟩
    rw [gd_true (n_in (by omega) (by decide)), n_cl (by omega), uIr_ne (by decide), h.1, if_pos rfl]
  intro m
  induction m with
  | zero =>
    intro i T hi hiN
    obtain rfl : i = 0 := by omega
    exact z0 0 T
  | succ m ih =>
    intro i T hi hiN
    by_cases q : i = 0
    · subst q; exact z0 _ T
    obtain ⟨h1, h2, h3, h4⟩ := h.2 i (by omega) hiN
    have e : pth (xF X) (m + 1) i = (xF X i).2 :: pth (xF X) m (xF X i).1 := if_neg q
    have hl := pth_len (Fd := xF X) (xN X) (fun i a1 a2 => (h.2 i a1 a2).2.2.1) m (xF X i).1 (by omega)
    obtain ⟨T', t1, t2, t3⟩ := ih (xF X i).1 (upd T (pth (xF X) m (xF X i).1).length (nI (xF X i).2)) (by omega) (by omega)
    have p2 : ¬ nI (xF X i).1 = (-2 : Int32) := fun y => nI_pos (show (xF X i).1 < 2 ^ 31 by omega) (by rw [y]; decide)
    have em : nI ((pth (xF X) m (xF X i).1).length + 1) + (-1 : Int32) = nI (pth (xF X) m (xF X i).1).length := by
      have := nI_pred (pth (xF X) m (xF X i).1).length
      rw [← this, Int32.sub_eq_add_neg]
    rw [e, List.length_cons]
    refine ⟨T', le_X12_layPath_45 en _ _ _ _ _ ?_, fun j hj => ?_, fun j hj => ?_⟩
    · rw [gd_true (n_in (by omega) (by decide)), n_cl (by omega), uIr_ne (by decide), h1, if_neg p2, em, gd_true (n_in (by omega) (by decide)), n_cl (by omega), uIr_ne (by decide), h2, nm_eq, uIr_u, uIr_ne (by decide), h1, nm_eq]
      exact t1
    · cases j with
      | zero =>
        rw [show (pth (xF X) m (xF X i).1).length + 1 - 1 - 0 = (pth (xF X) m (xF X i).1).length by omega, t3 _ (Nat.le_refl _), pk_us]
        rfl
      | succ j =>
        have := t2 j (by omega)
        rw [show (pth (xF X) m (xF X i).1).length + 1 - 1 - (j + 1) = (pth (xF X) m (xF X i).1).length - 1 - j by omega, this]
        rfl
    · rw [t3 j (by omega), pk_un (by omega)]
/-- whether a state is told -/
theorem hasState_alike (hX : XV P w nc nl nt n X) (hx : EXx P w nc nl nt n p fw X τ) (hm : EXm P w nc nl nt n fw X σ) : (qev en (d + 1) 183 [.ref 70, .int a] τ = some (some (.int 0), τ) ∧ qev en (d' + 1) 375 [.ref 151, .int a] σ = some (some (.int 0), σ)) ∨ ∃ o, o < xN X ∧ a = nI o ∧ qev en (d + 1) 183 [.ref 70, .int a] τ = some (some (.int 1), τ) ∧ qev en (d' + 1) 375 [.ref 151, .int a] σ = some (some (.int 1), σ) := by
  obtain ⟨ρ, F, N, G, b, rfl, ⟨⟨⟨-, -, -, -, x5, -, -, -, -⟩, -, -, -⟩, -, z2⟩, -, -⟩ := hx
  obtain ⟨ρ', F', s', y', g', D', rfl, ⟨-, -, m3, -⟩, -, -, k98, -⟩ := hm
  have hlim := @lim_le w
  have hxN := hX.1.2
  have e83 : (mS ρ 71 F N b G).1 83 3 = nI (xN X) := by rw [mS_o (by decide) (by decide) (by decide) (by decide)]; exact x5.1
  have e17 : (mS ρ 71 F N b G).1 70 17 = 1 := by rw [mS_o (by decide) (by decide) (by decide) (by decide)]; exact z2
  by_cases h0 : a < 0
  · left
    refine ⟨le_X10_hasState en _ _ _ _ ?_, le_X12_isState en _ _ _ _ ?_⟩
    · rw [e17, if_neg (by decide), if_pos h0]
    · rw [mM_F, k98, if_neg (by decide), if_pos h0]
  obtain ⟨c, hc, rfl⟩ := nI_of h0
  by_cases h1 : c < xN X
  · right
    refine ⟨c, h1, rfl, le_X10_hasState en _ _ _ _ ?_, le_X12_isState en _ _ _ _ ?_⟩
    · rw [e17, if_neg (by decide), if_neg h0, e83, if_neg (by rw [n_LE (by omega) (by omega)]; omega)]
    · rw [mM_F, k98, if_neg (by decide), if_neg h0, m3.1, if_neg (by rw [n_LE (by omega) (by omega)]; omega)]
  · left
    refine ⟨le_X10_hasState en _ _ _ _ ?_, le_X12_isState en _ _ _ _ ?_⟩
    · rw [e17, if_neg (by decide), if_neg h0, e83, if_pos (by rw [n_LE (by omega) (by omega)]; omega)]
    · rw [mM_F, k98, if_neg (by decide), if_neg h0, m3.1, if_pos (by rw [n_LE (by omega) (by omega)]; omega)]
end SD
