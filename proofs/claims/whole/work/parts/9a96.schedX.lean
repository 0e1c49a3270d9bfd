/-! ALL TURNS, both sides: schedule, done. -/
section SF
variable {en : pN} {d d' w nc nl nt n p o j : Nat} {P : Nat → fI} {τ σ : qS} {X : xT} {fw : Bool} {a q z : Int32}
/-- the model's tables of the path may be written anew -/
theorem EXm.path (hm : EXm P w nc nl nt n fw X σ) {c : Int32} {T : fI} : EXm P w nc nl nt n fw X (uIr (uI σ 151 128 c) 230 T) := by
  obtain ⟨ρ, F, s, y, g, D, rfl, m, n', k, k98⟩ := hm
  refine ⟨uIr ρ 230 T, upd F 128 c, s, y, g, D, by rw [mM_wF, mM_Ir (by decide) (by decide) (by decide) (by decide)], m.fr (mb_cg (fun c _ _ _ => uIr_ne (by omega)) m.1) (fun c hc => uIr_ne (by omega)) (fun j hj => pk_un (by omega)), n'.fr (fun _ _ => ⟨rfl, rfl⟩) (fun c hc => uIr_ne (by omega)) (fun i _ => by rw [uIr_ne (by decide), uIr_ne (by decide)]; exact ⟨rfl, rfl⟩) ⟨pk_un (by decide), pk_un (by decide)⟩ (fun i h1 h2 => absurd h2 (Nat.not_lt.mpr h1)), fun i hi => by rw [uIr_ne (by decide)]; exact k i hi, ?_⟩
  rw [pk_un (by decide), pk_un (by decide), pk_un (by decide), pk_un (by decide)]
  exact k98
theorem schedule_alike (hX : XV P w nc nl nt n X) (hx : EXx P w nc nl nt n p fw X τ) (hm : EXm P w nc nl nt n fw X σ) : ∃ (r : Int32) (σ' : qS), qev en (d + 3) 225 [.ref 0, .int a, .int q] τ = some (some (.int r), τ) ∧ qev en (d' + 2) 376 [.ref 151, .int a, .int q] σ = some (some (.int r), σ') ∧ EXm P w nc nl nt n fw X σ' ∧ (∀ c, c ≠ 151 → c ≠ 230 → σ'.1 c = σ.1 c) ∧ (∀ j, j ≠ 128 → σ'.1 151 j = σ.1 151 j) ∧ σ'.2 = σ.2 := by
  have hlim := @lim_le w
  have hxN := hX.1.2
  rcases hasState_alike (en := en) (d := d + 1) (d' := d') (a := a) hX hx hm with ⟨e1, e2⟩ | ⟨i, hi, rfl, e1, e2⟩
  · refine ⟨-1, σ, le_X11_schedule en _ _ _ _ _ ?_, le_X12_schedule en _ _ _ _ _ ?_, hm, fun _ _ _ => rfl, fun _ _ => rfl, rfl⟩
    · rw [e1, bI_some, if_pos rfl]
    · rw [e2, bI_some, if_pos rfl]
  by_cases h1 : (-1 : Int32) ≤ q
  rotate_left
  · refine ⟨-1, σ, le_X11_schedule en _ _ _ _ _ ?_, le_X12_schedule en _ _ _ _ _ ?_, hm, fun _ _ _ => rfl, fun _ _ => rfl, rfl⟩
    · rw [e1, bI_some, if_neg (by decide), if_neg h1]
    · rw [e2, bI_some, if_neg (by decide), if_neg h1]
  -- the path
  have hF := hX.2.2.2.2.2
  have hfx : fdX X (τ.1 91) := by
    obtain ⟨ρ, F, N, G, b, rfl, ⟨⟨⟨-, -, -, -, -, -, -, x8, -⟩, -, -, -⟩, -, z2⟩, -, -⟩ := hx
    intro i a1 a2
    refine ⟨?_, (hF i a1 a2).1, (hF i a1 a2).2.1⟩
    rw [mS_o (by decide) (by decide) (by decide) (by decide)]
    exact x8 i a1 a2
  have hfm : fdM X σ := by
    obtain ⟨ρ', F', s', y', g', D', rfl, ⟨-, -, -, -, -, -, m7, m8, -⟩, -⟩ := hm
    have o1 : (mM ρ' F' s' y' g' D').1 212 = ρ'.1 212 := mM_o (by decide) (by decide) (by decide) (by decide)
    have o2 : (mM ρ' F' s' y' g' D').1 213 = ρ'.1 213 := mM_o (by decide) (by decide) (by decide) (by decide)
    refine ⟨by rw [o1]; exact m8.1, fun i a1 a2 => ?_⟩
    rw [o1, o2]
    exact ⟨(m7 i a1 a2).1, (m7 i a1 a2).2, (hF i a1 a2).1, (hF i a1 a2).2.1⟩
  have hlen := pth_len (Fd := xF X) (xN X) (fun i a1 a2 => (hF i a1 a2).1) i i hi
  generalize hL : pth (xF X) i i = L at hlen
  have e190 : qev en (d + 2) 190 [.ref 70, .int (nI i)] τ = some (some (.int (nI L.length)), τ) := by
    have := x_schedLen (en := en) (d := d) hfx (by omega) i i 0 0 (Nat.le_refl _) hi (by omega) (Nat.le_refl _)
    rw [Nat.zero_add, hL] at this
    exact le_X10_scheduleLength en _ _ _ _ this
  obtain ⟨T', t1, t2, -⟩ := m_lay45 (en := en) (d := d') (σ := uI σ 151 128 (nI L.length)) (by
    refine ⟨by rw [uI_ne (by decide)]; exact hfm.1, fun i a1 a2 => by rw [uI_ne (by decide), uI_ne (by decide)]; exact hfm.2 i a1 a2⟩) (by omega) i i ((uI σ 151 128 (nI L.length)).1 230) (Nat.le_refl _) hi
  rw [uIr_i, hL] at t1
  rw [hL] at t2
  let σ' : qS := uIr (uI σ 151 128 (nI L.length)) 230 T'
  have e374 : qev en (d' + 1) 374 [.ref 151, .int (nI i)] σ = some (none, σ') := by
    refine le_X12_layPath en _ _ _ _ ?_
    rw [nm_eq]
    have h7 := m_lay7 (en := en) (d := d') (v1 := nI i) hfm (by omega) i i 0 (Nat.le_refl _) hi (by omega) (none, σ')
    rw [Nat.zero_add, hL] at h7
    exact h7 t1
  have f128 : σ'.1 151 128 = nI L.length := by
    show (uIr (uI σ 151 128 (nI L.length)) 230 T').1 151 128 = _
    rw [uIr_ne (by decide), g_I, if_pos ⟨rfl, rfl⟩]
  have f230 : σ'.1 230 = T' := uIr_row
  have fin : EXm P w nc nl nt n fw X σ' ∧ (∀ c, c ≠ 151 → c ≠ 230 → σ'.1 c = σ.1 c) ∧ (∀ j, j ≠ 128 → σ'.1 151 j = σ.1 151 j) ∧ σ'.2 = σ.2 := ⟨EXm.path hm, fun c h1 h2 => by
    show (uIr (uI σ 151 128 (nI L.length)) 230 T').1 c = _
    rw [uIr_ne h2, uI_ne h1], fun j hj => by
    show (uIr (uI σ 151 128 (nI L.length)) 230 T').1 151 j = _
    rw [uIr_ne (by decide), g_I, if_neg (fun z => hj z.2)], rfl⟩
  by_cases h2 : q = -1
  · refine ⟨nI L.length, σ', le_X11_schedule en _ _ _ _ _ ?_, le_X12_schedule en _ _ _ _ _ ?_, fin⟩
    · rw [e1, bI_some, if_neg (by decide), if_pos h1, e190, bI_some, if_neg (fun z => z h2)]
    · rw [e2, bI_some, if_neg (by decide), if_pos h1, e374, bV_some, if_neg (fun z => z h2), f128]
  have h3 : ¬ q < 0 := fun z => by
    have g1 : -1 ≤ q.toInt := Int32.le_iff_toInt_le.mp h1
    have g2 : q.toInt < 0 := Int32.lt_iff_toInt_lt.mp z
    refine h2 (Int32.toInt_inj.mp ?_)
    show q.toInt = -1
    omega
  obtain ⟨c, hc, rfl⟩ := nI_of h3
  by_cases h4 : c < L.length
  · refine ⟨nI (L.getD (L.length - 1 - c) 0), σ', le_X11_schedule en _ _ _ _ _ ?_, le_X12_schedule en _ _ _ _ _ ?_, fin⟩
    · have e191 : qev en (d + 2) 191 [.ref 70, .int (nI i), .int (nI (L.length - 1 - c))] τ = some (some (.int (nI (L.getD (L.length - 1 - c) 0))), τ) := by
        have := x_schedStep (en := en) (d := d) hfx (by omega) (K := L.length - 1 - c) (by omega) i i 0 (Nat.le_refl _) hi (Nat.zero_le _) (by rw [hL]; omega)
        rw [hL, Nat.sub_zero] at this
        exact le_X10_scheduledStep en _ _ _ _ _ this
      have ei : nI L.length - (1 : Int32) = nI (L.length - 1) := by
        have := nI_pred (L.length - 1)
        rw [show L.length - 1 + 1 = L.length by omega] at this
        exact this
      rw [e1, bI_some, if_neg (by decide), if_pos h1, e190, bI_some, if_pos h2, if_pos (by rw [n_LT (by omega) (by omega)]; exact h4), ei, n_sub (by omega), e191, bI_some]
    · have := t2 (L.length - 1 - c) (by omega)
      rw [show L.length - 1 - (L.length - 1 - c) = c by omega] at this
      rw [e2, bI_some, if_neg (by decide), if_pos h1, e374, bV_some, if_pos h2, f128, if_neg (by rw [n_LE (by omega) (by omega)]; omega), gd_true (n_in (by omega) (by decide)), n_cl (by omega), f230, this]
  · refine ⟨-1, σ', le_X11_schedule en _ _ _ _ _ ?_, le_X12_schedule en _ _ _ _ _ ?_, fin⟩
    · rw [e1, bI_some, if_neg (by decide), if_pos h1, e190, bI_some, if_pos h2, if_neg (by rw [n_LT (by omega) (by omega)]; exact h4)]
    · rw [e2, bI_some, if_neg (by decide), if_pos h1, e374, bV_some, if_pos h2, f128, if_pos (by rw [n_LE (by omega) (by omega)]; omega)]
end SF
