/-! THE TOP: sound. -/
section TOPM1
variable {en : pN} {d d' w nc nl nt n n2 n' i k m : Nat} {P P2 : Nat → fI} {σ σ' σ'' s τ : qS} {X X2 : xT} {F F' g y sr : fI} {D : Int64}
theorem m_sound2 (hP : PV P nc nl nt n) (hP2 : PV P2 nc nl nt n2) (hw2 : w ≤ 2) (hB : MB σ 0 P nc nl nt n) (hB1 : MB σ 1 P2 nc nl nt n2) (h12 : σ.1 151 12 = nI nc) (h16 : σ.1 151 16 = nI nl) (h18 : σ.1 151 18 = nI nt) (h32 : σ.1 151 32 = nI n') (hn : n ≤ n') (hn2 : n2 ≤ n') (hn' : n' ≤ 100) (hb0 : ∀ i, i < n' → vp_nar .boolean (σ.1 175 (100 * 0 + i)) = σ.1 175 (100 * 0 + i)) (hb1 : ∀ i, i < n' → vp_nar .boolean (σ.1 175 (100 * 1 + i)) = σ.1 175 (100 * 1 + i)) (hin : ∀ c, c < nc → inR (P 4 c)) (hin2 : ∀ c, c < nc → inR (P2 4 c)) (h147 : ¬ σ.1 151 147 = 0) :
    ∃ (r : Int32) (σ' : qS), qev en (d + 9) 405 [.ref 151, .int (nI w)] σ = some (some (.int r), σ') ∧ sndQ P P2 w nc nl nt (σ.1 151 150) r (σ'.1 151 150) ∧ frSw n' nt σ σ' ∧ ((r = -3 ∧ σ'.1 151 98 = 0) ∨ (¬ r = -3 ∧ ∃ X2, expl P2 w nc nl nt false = some X2 ∧ EXm P2 w nc nl nt n2 false X2 σ' ∧ σ'.1 151 148 = 1 ∧ σ'.1 151 121 = 0 ∧ ∀ i, i < n' → σ'.1 175 (200 + i) = σ.1 175 (100 + i) ∧ σ'.2.1 180 (200 + i) = σ.2.1 180 (100 + i))) := by
  have hlim := @lim_le w
  have hnt := hP.2.2.1
  have nle0 : ¬ nI w < 0 := nI_pos (by omega)
  have le2 : nI w ≤ (2 : Int32) := by rw [show (2 : Int32) = nI 2 from rfl, n_LE (by omega) (by omega)]; exact hw2
  let σ1 : qS := cpT (cpS σ 0 2 n') 0 2 nt
  have f1 : frSw n' nt σ σ1 := fr_cp hnt.2 hn'
  have e1 : mM σ1 (σ1.1 151) (σ1.1 187) (σ1.1 188) (σ1.1 189) (σ1.2.1 151 72) = σ1 := mM_id
  have g1 : σ1.1 151 = σ.1 151 := by show (cpT (cpS σ 0 2 n') 0 2 nt).1 151 = _; rw [cpT_o (by decide), cpS_o (by decide)]
  have start : ∀ q, (bI (qev en (d + 8) 365 [.ref 151, .int (nI w), .int (0 : Int32)] σ1) (fun w7 s8 => nm (uI s8 151 98 (0 : Int32)) (fun s10 => if w7 = (-3 : Int32) then some (some (.int (-3 : Int32)), s10) else if (s10.1 151 115) ≤ (4000 : Int32) then nm (uI s10 151 154 (s10.1 151 115)) (fun s13 => L_X12_sound_68 en (d + 8) (nI w) (0 : Int32) s13) else some (some (.int (-3 : Int32)), s10))) : Option qR) = some q → qev en (d + 9) 405 [.ref 151, .int (nI w)] σ = some q := fun q hq => by
    refine le_X12_sound en _ _ _ _ ?_
    have hc : qev en (d + 8) 293 [.ref 151, .int (0 : Int32), .int (2 : Int32)] σ = some (none, σ1) := m_copyP (v1 := 0) (v2 := 2) (d := d + 7) (by decide) (by decide) (by decide) h32 hn' h18 hnt.2 hb0
    rw [if_neg nle0, if_pos le2, if_pos h147, hc, bV_some]
    exact hq
  have hB2 : MB σ1 2 P nc nl nt n := MB_cp (by decide) (by decide) hn hB
  have hm := m_tryAll (en := en) (d := d) (w := w) (fw := false) (σ := σ1) (F := σ1.1 151) (s := σ1.1 187) (y := σ1.1 188) (g := σ1.1 189) (D := σ1.2.1 151 72) hB2 hP hw2 (by rw [g1]; exact h12) (by rw [g1]; exact h16) (by rw [g1]; exact h18) hin
  rw [e1] at hm
  rcases hm with ⟨x1, ρ, F, s, y, g, D, x2, x3, x4⟩ | ⟨X, x1, hXV, ρ, F, s, y, g, D, x2, x3, x4, x5, ⟨x6, x7, x8, x9⟩, x10⟩
  · have x2' : qev en (d + 8) 365 [.ref 151, .int (nI w), .int (0 : Int32)] σ1 = some (some (.int (-3)), mM ρ F s y g D) := x2
    refine ⟨-3, mM ρ (upd F 98 0) s y g D, start _ (by rw [x2', bI_some, nm_eq, if_pos rfl, mM_wF]), Or.inl ⟨rfl, ?_, Or.inl x1⟩, f1.tr (fr_try x3 (fun j a _ => pk_un a)), Or.inl ⟨rfl, by rw [mM_F, pk_us]⟩⟩
    rw [mM_F, pk_un (by decide), x3.2.1 150 (by omega), g1]
  have x2' : qev en (d + 8) 365 [.ref 151, .int (nI w), .int (0 : Int32)] σ1 = some (some (.int (nI (xN X))), mM ρ F s y g D) := x2
  have hxN := hXV.1
  have hol := outL_len (P := P) (w := w) (nt := nt) (S := xS X) (xN X)
  have h115 : F 115 = nI (outL P w nt (xS X) (xN X)).length := x4.2.2.2.1.1
  have nm3 : ¬ nI (xN X) = (-3 : Int32) := fun z => by
    have := congrArg Int32.toInt z
    rw [n_to (by omega)] at this
    have h3 : (-3 : Int32).toInt = -3 := by decide
    omega
  by_cases q4 : (outL P w nt (xS X) (xN X)).length ≤ 4000
  rotate_left
  · refine ⟨-3, mM ρ (upd F 98 0) s y g D, start _ (by rw [x2', bI_some, nm_eq, if_neg nm3, mM_wF, mM_F, pk_un (by decide), h115, if_neg (by rw [show (4000 : Int32) = nI 4000 from rfl, n_LE (by omega) (by omega)]; exact q4)]), Or.inl ⟨rfl, ?_, Or.inr ⟨X, x1, Or.inl (by omega)⟩⟩, f1.tr (fr_try x10 (fun j a _ => pk_un a)), Or.inl ⟨rfl, by rw [mM_F, pk_us]⟩⟩
    rw [mM_F, pk_un (by decide), x10.2.1 150 (by omega), g1]
  -- laid aside
  let F3 : fI := upd (upd F 98 0) 154 (F 115)
  let s3 : qS := mM ρ F3 s y g D
  have hF3 : ∀ j, j ≠ 98 → j ≠ 154 → F3 j = F j := fun j a1 a2 => (pk_un a2).trans (pk_un a1)
  have f3 : frSw n' nt σ s3 := f1.tr (fr_try x10 hF3)
  have hR3 : roP P w nt X s3 := by
    refine ⟨?_, fun i hi j hj => ?_, ?_, fun j hj => ?_⟩
    · show (mM ρ F3 s y g D).1 151 60 = _
      rw [mM_F, hF3 60 (by decide) (by decide)]; exact x3.2.2.1.2.1
    · show (mM ρ F3 s y g D).1 210 _ = _
      rw [mM_o (by decide) (by decide) (by decide) (by decide)]; exact x3.2.2.1.2.2.2.1 i hi j hj
    · show (mM ρ F3 s y g D).1 151 115 = _
      rw [mM_F, hF3 115 (by decide) (by decide)]; exact h115
    · show (mM ρ F3 s y g D).1 221 j = _ ∧ (mM ρ F3 s y g D).1 225 j = _
      rw [mM_o (by decide) (by decide) (by decide) (by decide), mM_o (by decide) (by decide) (by decide) (by decide)]; exact x4.2.2.2.1.2.1 j hj
  have h154 : s3.1 151 154 = nI (outL P w nt (xS X) (xN X)).length := by
    show (mM ρ F3 s y g D).1 151 154 = _
    rw [mM_F]
    show upd (upd F 98 0) 154 (F 115) 154 = _
    rw [pk_us]; exact h115
  obtain ⟨s4, w1, w2', w3⟩ := m_s68 (en := en) (d := d + 8) (v1 := nI w) hw2 hXV q4 (outL P w nt (xS X) (xN X)).length 0 s3 (by omega) hR3 h154 (fun j hj => absurd hj (Nat.not_lt_zero _))
  have f4 : frSw n' nt σ s4 := f3.tr ⟨fun c a1 a2 a3 a4 a5 a6 a7 a8 a9 b1 => w1.1 c a8 a9 b1, fun j a1 a2 a3 a4 => by rw [w1.1 151 (by decide) (by decide) (by decide)], fun c a1 a2 i hi => by rw [w1.1 c (by omega) (by omega) (by omega)], fun i hi => by rw [w1.1 181 (by decide) (by decide) (by decide)], fun c a1 a2 => by rw [w1.2], fun i hi => by rw [w1.2]⟩
  let s5 : qS := cpT (cpS s4 1 2 n') 1 2 nt
  have f5 : frSw n' nt σ s5 := f4.tr (fr_cp hnt.2 hn')
  let s6 : qS := uI s5 151 148 1
  have o6 : ∀ c, c ≠ 151 → s6.1 c = s5.1 c := fun c hc => uI_ne hc
  have o6' : ∀ j, j ≠ 148 → s6.1 151 j = s4.1 151 j := fun j hj => by
    show (uI s5 151 148 1).1 151 j = _
    rw [g_I, if_neg (fun z => hj z.2)]
    show (cpT (cpS s4 1 2 n') 1 2 nt).1 151 j = _
    rw [cpT_o (by decide), cpS_o (by decide)]
  have f6 : frSw n' nt σ s6 := f5.tr ⟨fun c a1 a2 a3 a4 a5 a6 a7 a8 a9 b1 => o6 c a3, fun j a1 a2 a3 a4 => by show (uI s5 151 148 1).1 151 j = _; rw [g_I, if_neg (fun z => a2 z.2)], fun c a1 a2 i hi => by rw [o6 c (by omega)], fun i hi => by rw [o6 181 (by decide)], fun _ _ _ => rfl, fun _ _ => rfl⟩
  have hB41 : MB s4 1 P2 nc nl nt n2 := mb_at hB1 (fun a ha => f4.1 a (by omega) (by omega) (by omega) (by omega) (by omega) (by omega) (by omega) (by omega) (by omega) (by omega)) (fun a a1 a2 i hi => f4.2.2.1 a a1 a2 _ (by omega)) (fun t ht => f4.2.2.2.1 _ (by omega))
  have hB6 : MB s6 2 P2 nc nl nt n2 := mb_cg (fun c a1 a2 a3 => o6 c a3) (MB_cp (by decide) (by decide) hn2 hB41)
  have start2 : ∀ q, (bI (qev en (d + 8) 365 [.ref 151, .int (nI w), .int (0 : Int32)] s6) (fun w6 s7 => if ¬ w6 = (-3 : Int32) then L_X12_sound_225 en (d + 8) (-2 : Int32) (0 : Int32) s7 else some (some (.int (-3 : Int32)), s7)) : Option qR) = some q → qev en (d + 9) 405 [.ref 151, .int (nI w)] σ = some q := fun q hq => by
    refine start q ?_
    rw [x2', bI_some, nm_eq, if_neg nm3, mM_wF, mM_F, pk_un (by decide), h115, if_pos (by rw [show (4000 : Int32) = nI 4000 from rfl, n_LE (by omega) (by omega)]; exact q4), nm_eq, mM_wF, ← h115]
    refine w3 q ?_
    have hc : qev en (d + 8) 293 [.ref 151, .int (1 : Int32), .int (2 : Int32)] s4 = some (none, s5) := m_copyP (v1 := 1) (v2 := 2) (d := d + 7) (by decide) (by decide) (by decide) ((f4.2.1 32 (by omega) (by decide) (by decide) (by decide)).trans h32) hn' ((f4.2.1 18 (by omega) (by decide) (by decide) (by decide)).trans h18) hnt.2 (fun i hi => by rw [f4.2.2.1 175 (by decide) (by decide) _ (by omega)]; exact hb1 i hi)
    rw [hc, bV_some, nm_eq]
    exact hq
  have e6 : mM s6 (s6.1 151) (s6.1 187) (s6.1 188) (s6.1 189) (s6.2.1 151 72) = s6 := mM_id
  have hm2 := m_tryAll (en := en) (d := d) (w := w) (fw := false) (σ := s6) (F := s6.1 151) (s := s6.1 187) (y := s6.1 188) (g := s6.1 189) (D := s6.2.1 151 72) hB6 hP2 hw2 ((o6' 12 (by decide)).trans ((f4.2.1 12 (by omega) (by decide) (by decide) (by decide)).trans h12)) ((o6' 16 (by decide)).trans ((f4.2.1 16 (by omega) (by decide) (by decide) (by decide)).trans h16)) ((o6' 18 (by decide)).trans ((f4.2.1 18 (by omega) (by decide) (by decide) (by decide)).trans h18)) hin2
  rw [e6] at hm2
  have g150 : s6.1 151 150 = σ.1 151 150 := by
    rw [o6' 150 (by decide), w1.1 151 (by decide) (by decide) (by decide)]
    show (mM ρ F3 s y g D).1 151 150 = _
    rw [mM_F, hF3 150 (by decide) (by decide), x10.2.1 150 (by omega), g1]
  have g148 : s6.1 151 148 = 1 := by show (uI s5 151 148 1).1 151 148 = _; rw [g_I, if_pos ⟨rfl, rfl⟩]
  rcases hm2 with ⟨y1, ρ2, F2, s2, y2, g2, D2, y3, y4, y5⟩ | ⟨X2, y1, hXV2, ρ2, F2, s2, y2, g2, D2, y3, y4, y5, y6, ⟨y7, y8, y9, y10⟩, y11⟩
  · have y3' : qev en (d + 8) 365 [.ref 151, .int (nI w), .int (0 : Int32)] s6 = some (some (.int (-3)), mM ρ2 F2 s2 y2 g2 D2) := y3
    refine ⟨-3, mM ρ2 F2 s2 y2 g2 D2, start2 _ (by rw [y3', bI_some, if_neg (not_not_intro rfl)]), Or.inl ⟨rfl, ?_, Or.inr ⟨X, x1, Or.inr y1⟩⟩, f6.tr (fr_try y4 (fun _ _ _ => rfl)), Or.inl ⟨rfl, by rw [mM_F]; exact y5⟩⟩
    rw [mM_F, y4.2.1 150 (by omega)]; exact g150
  have y3' : qev en (d + 8) 365 [.ref 151, .int (nI w), .int (0 : Int32)] s6 = some (some (.int (nI (xN X2))), mM ρ2 F2 s2 y2 g2 D2) := y3
  have hxN2 := hXV2.1
  have nm32 : ¬ nI (xN X2) = (-3 : Int32) := fun z => by
    have := congrArg Int32.toInt z
    rw [n_to (by omega)] at this
    have h3 : (-3 : Int32).toInt = -3 := by decide
    omega
  have f7 : frSw n' nt σ (mM ρ2 F2 s2 y2 g2 D2) := f6.tr (fr_try y11 (fun _ _ _ => rfl))
  have hR7 : roP P2 w nt X2 (mM ρ2 F2 s2 y2 g2 D2) := by
    refine ⟨?_, fun i hi j hj => ?_, ?_, fun j hj => ?_⟩
    · rw [mM_F]; exact y4.2.2.1.2.1
    · rw [mM_o (by decide) (by decide) (by decide) (by decide)]; exact y4.2.2.1.2.2.2.1 i hi j hj
    · rw [mM_F]; exact y5.2.2.2.1.1
    · rw [mM_o (by decide) (by decide) (by decide) (by decide), mM_o (by decide) (by decide) (by decide) (by decide)]; exact y5.2.2.2.1.2.1 j hj
  have h1547 : (mM ρ2 F2 s2 y2 g2 D2).1 151 154 = nI (outL P w nt (xS X) (xN X)).length := by
    rw [mM_F, y11.2.1 154 (by omega), o6' 154 (by decide), w1.1 151 (by decide) (by decide) (by decide)]; exact h154
  have e247 : ∀ c, c = 247 ∨ c = 248 ∨ c = 249 → (mM ρ2 F2 s2 y2 g2 D2).1 c = s4.1 c := fun c hc => by
    rw [mM_o (by omega) (by omega) (by omega) (by omega), y11.1 c (by omega) (by omega), o6 c (by omega)]
    show (cpT (cpS s4 1 2 n') 1 2 nt).1 c = _
    rw [cpT_o (by omega), cpS_o (by omega)]
  have hW7 : wsP P w nt X (mM ρ2 F2 s2 y2 g2 D2) (outL P w nt (xS X) (xN X)).length := fun j hj => by
    rw [e247 247 (by omega), e247 248 (by omega), e247 249 (by omega)]; exact w2' j hj
  have start3 : ∀ q, L_X12_sound_225 en (d + 8) (-2 : Int32) (nI 0) (mM ρ2 F2 s2 y2 g2 D2) = some q → qev en (d + 9) 405 [.ref 151, .int (nI w)] σ = some q := fun q hq => start2 q (by
    rw [y3', bI_some, if_pos nm32]
    exact hq)
  have hEX : ∀ x, EXm P2 w nc nl nt n2 false X2 (uI (mM ρ2 F2 s2 y2 g2 D2) 151 150 x) := fun x => by
    have h0 : EXm P2 w nc nl nt n2 false X2 (mM ρ2 F2 s2 y2 g2 D2) := ⟨ρ2, F2, s2, y2, g2, D2, rfl, y4.W y10, y5, y6, y7, y8, y9, rfl⟩
    exact h0.fl (mb_cg (fun c a1 a2 a3 => uI_ne a3) h0.flat.1.1) ⟨fun c a1 a2 => uI_ne (by omega), fun j hj => by rw [g_I, if_neg (fun z => by omega)]⟩
  have f8 : ∀ x, frSw n' nt σ (uI (mM ρ2 F2 s2 y2 g2 D2) 151 150 x) := fun x => f7.tr ⟨fun c a1 a2 a3 _ _ _ _ _ _ _ => uI_ne a3, fun j a1 a2 a3 a4 => by rw [g_I, if_neg (fun z => a3 z.2)], fun c a1 a2 i hi => by rw [uI_ne (by omega)], fun i hi => by rw [uI_ne (by decide)], fun _ _ _ => rfl, fun _ _ => rfl⟩
  have h148 : ∀ x, (uI (mM ρ2 F2 s2 y2 g2 D2) 151 150 x).1 151 148 = 1 := fun x => by rw [g_I, if_neg (by decide), mM_F, y11.2.1 148 (by omega)]; exact g148
  have h121 : ∀ x, (uI (mM ρ2 F2 s2 y2 g2 D2) 151 150 x).1 151 121 = 0 := fun x => by rw [g_I, if_neg (by decide), mM_F]; exact y11.2.2.2
  have hK : ∀ x i, i < n' → (uI (mM ρ2 F2 s2 y2 g2 D2) 151 150 x).1 175 (200 + i) = σ.1 175 (100 + i) ∧ (uI (mM ρ2 F2 s2 y2 g2 D2) 151 150 x).2.1 180 (200 + i) = σ.2.1 180 (100 + i) := fun x i hi => by
    constructor
    · rw [uI_ne (by decide), mM_o (by decide) (by decide) (by decide) (by decide), y11.1 175 (by decide) (by decide), o6 175 (by decide)]
      show (cpT (cpS s4 1 2 n') 1 2 nt).1 175 (200 + i) = _
      rw [cpT_o (by decide)]
      show (if (164 ≤ 175 ∧ 175 ≤ 179) ∧ 100 * 2 ≤ 200 + i ∧ 200 + i < 100 * 2 + n' then s4.1 175 (200 + i - 100 * 2 + 100 * 1) else s4.1 175 (200 + i)) = _
      rw [if_pos ⟨⟨by decide, by decide⟩, by omega, by omega⟩, show 200 + i - 100 * 2 + 100 * 1 = 100 + i by omega]
      exact f4.2.2.1 175 (by decide) (by decide) _ (by omega)
    · show (mM ρ2 F2 s2 y2 g2 D2).2.1 180 (200 + i) = _
      rw [mM_J (by decide), y11.2.2.1]
      show (if 180 = 180 ∧ 100 * 2 ≤ 200 + i ∧ 200 + i < 100 * 2 + n' then s4.2.1 180 (200 + i - 100 * 2 + 100 * 1) else s4.2.1 180 (200 + i)) = _
      rw [if_pos ⟨rfl, by omega, by omega⟩, show 200 + i - 100 * 2 + 100 * 1 = 100 + i by omega]
      exact f4.2.2.2.2.2 _ (by omega)
  rcases m_s225 (en := en) (d := d + 7) hw2 hXV hXV2 q4 hR7 h1547 hW7 (outL P2 w nt (xS X2) (xN X2)).length 0 (by omega) (fun j hj => absurd hj (Nat.not_lt_zero _)) with ⟨z1, z2⟩ | ⟨k, z1, z2, z3, z4⟩
  · refine ⟨1, _, start3 _ z1, Or.inr ⟨X, X2, x1, q4, y1, Or.inl ⟨rfl, ?_, z2⟩⟩, f8 _, Or.inr ⟨by decide, X2, y1, hEX _, h148 _, h121 _, hK _⟩⟩
    rw [g_I, if_pos ⟨rfl, rfl⟩, mM_F, y11.2.1 150 (by omega)]; exact g150
  · exact ⟨0, _, start3 _ z4, Or.inr ⟨X, X2, x1, q4, y1, Or.inr ⟨rfl, k, z1, by rw [g_I, if_pos ⟨rfl, rfl⟩], z2, z3⟩⟩, f8 _, Or.inr ⟨by decide, X2, y1, hEX _, h148 _, h121 _, hK _⟩⟩
end TOPM1
section TOPM
variable {en : pN} {d d' k i n N j r v u m nc nl nt key a w p len : Nat} {V cl th K : Nat → Nat} {U : Nat → Nat → Nat} {bl : Nat → List Nat} {go : Nat → Bool} {s s' t t' τ τ' σ σ' : qS} {e x g y b o o' e' x' g' y' fw : Bool} {z a1 a2 a3 : Int32} {P P2 P3 : Nat → fI} {X : xT} {F M T : fI} {f f' : Nat → fI}
theorem IVp_s (h : IVp s t b o e x g y P P2 V U cl nc nl nt m N th K bl) (hb : b = true) (ho' : o = true) (f : frSd s s') (q : frSw N nt t t') (h150 : s'.1 0 14 = t'.1 151 150) (he : (e' = false ∧ s'.1 70 17 = 0 ∧ t'.1 151 98 = 0) ∨ (e' = true ∧ s'.1 70 17 = 1 ∧ t'.1 151 98 = 1 ∧ s'.1 0 11 = 1 ∧ t'.1 151 148 = 1 ∧ xpI P2 36 s' t' nc nl nt N)) : IVp s' t' b o e' true g y P P2 V U cl nc nl nt m N th K bl := by
  obtain ⟨⟨⟨n, B, h1, h2⟩, ⟨h3, h4⟩, h5, ⟨⟨h6, h7⟩, ⟨h8, h9⟩, h10⟩, ⟨Mt, h11, h12⟩⟩, h13, h14, h15, h16, h17, h18, h19⟩ := h
  have hP := h15 hb
  have hN : N ≤ 100 := hP.1.2.1.2.2.1
  have hnt : nt ≤ 4 := hP.1.1.1.2.2
  obtain ⟨f1, f2, f3, f4⟩ := f
  obtain ⟨q1, q2, q3, q4, q5, q6⟩ := q
  have sI : ∀ c, (c < 70 ∨ 103 ≤ c) ∧ c ≠ 7 ∧ c ≠ 10 ∧ c ≠ 0 → s'.1 c = s.1 c := fun c hc => f1 c hc.1 hc.2.1 hc.2.2.1 hc.2.2.2
  have sR' : ∀ c k, c ≠ 71 → s'.2.2 c k = s.2.2 c k := fun c k hc => f4 c k (fun z => hc z.1)
  have tI : ∀ c, (c < 164 ∨ 181 < c) ∧ (c < 210 ∨ 226 < c) ∧ c ≠ 151 ∧ c ≠ 187 ∧ c ≠ 188 ∧ c ≠ 189 ∧ c ≠ 190 ∧ c ≠ 247 ∧ c ≠ 248 ∧ c ≠ 249 → t'.1 c = t.1 c := fun c hc => q1 c (by omega) (by omega) (by omega) (by omega) (by omega) (by omega) (by omega) (by omega) (by omega) (by omega)
  have tF : ∀ j, (j < 58 ∨ j = 61 ∨ (74 ≤ j ∧ j < 98) ∨ (104 ≤ j ∧ j < 115) ∨ (116 ≤ j ∧ j < 120) ∨ 122 ≤ j) ∧ j ≠ 148 ∧ j ≠ 150 ∧ j ≠ 154 → t'.1 151 j = t.1 151 j := fun j hj => q2 j hj.1 hj.2.1 hj.2.2.1 hj.2.2.2
  have pq : ∀ z : Bool, ((if z = true then 36 else 11) = 11 ∨ (if z = true then 36 else 11) = 36) := fun z => by cases z <;> simp
  refine ⟨⟨⟨n, B, ?_, ?_⟩, ⟨?_, ?_⟩, fun a k ha hk => ?_, ⟨⟨?_, ?_⟩, ⟨?_, ?_⟩, ?_⟩, ⟨Mt, ?_, ?_⟩⟩, ?_, ?_, fun _ => ?_, fun ho => ?_, ⟨?_, fun z => ?_, fun z => ?_, ?_, ?_, fun z => ?_⟩, fun z => ?_, fun hg => ?_⟩
  · unfold TX; rw [sI 1 (by decide), sI 2 (by decide)]; exact h1
  · unfold MX; rw [tF 1 (by decide), tI 152 (by decide)]; exact h2
  · rw [f3 3 (by decide) (by decide) (by decide)]; exact h3
  · rw [f3 66 (by decide) (by decide) (by decide)]; exact h4
  · have := ha.2
    rw [sR' a k (by omega)] at hk ⊢; exact h5 a k ha hk
  · rw [sI 65 (by decide), tF 9 (by decide)]; exact h6
  · rw [sI 65 (by decide), tF 10 (by decide)]; exact h7
  · rw [f2 13 (by decide) (by decide), tF 131 (by decide)]; exact h8
  · exact h150
  · rw [sI 103 (by decide)]; exact h10
  · unfold tdI; rw [sI 125 (by decide), sI 150 (by decide)]; exact h11
  · unfold tmI; rw [tF 96 (by decide), tI 208 (by decide)]; exact h12
  · rw [f2 9 (by decide) (by decide), tF 11 (by decide)]; exact h13
  · rw [f2 10 (by decide) (by decide), tF 147 (by decide)]; exact h14
  · exact PGx_fr hP ⟨fun c _ c2 => sI c (by omega), fun j _ => by rw [sI 8 (by decide), sI 9 (by decide)]; exact ⟨rfl, rfl⟩, sI 68 (by decide), fun c hc => f3 c (by omega) (by omega) (by omega)⟩ ⟨fun c hc => tI c (by omega), fun j _ => by rw [tI 161 (by decide), tI 162 (by decide)]; exact ⟨rfl, rfl⟩, fun c c1 c2 j hj => q3 c c1 c2 j (by omega), fun j hj => q4 j (by omega), fun j hj => tF j (by omega), fun c hc => q5 c (by omega) (by omega), fun j hj => q6 j (by omega)⟩
  · obtain ⟨w1, w2⟩ := h16 ho
    exact ⟨w1, rwI_fr w2 (fun c hc => sI c (by omega)) ⟨fun c hc => tI c (by omega), fun j _ => by rw [tI 161 (by decide), tI 162 (by decide)]; exact ⟨rfl, rfl⟩, fun c c1 c2 j _ j2 => q3 c c1 c2 j (by omega), fun j _ j2 => q4 j (by omega), tF 32 (by decide), fun j _ j2 => q6 j (by omega)⟩⟩
  · rcases he with ⟨rfl, z2, z3⟩ | ⟨rfl, z2, z3, -⟩
    · exact ⟨z2, z3⟩
    · exact ⟨z2, z3⟩
  · rcases he with ⟨z1, -⟩ | ⟨-, -, -, z4, -⟩
    · rw [z1] at z; cases z
    · exact z4
  · rcases he with ⟨z1, -⟩ | ⟨-, -, -, -, z4, -⟩
    · rw [z1] at z; cases z
    · exact z4
  · rw [sI 111 (by decide), tF 74 (by decide)]; exact h17.2.2.2.1
  · rw [f2 12 (by decide) (by decide)]; exact h17.2.2.2.2.1
  · rw [tF 149 (by decide)]; exact h17.2.2.2.2.2 z
  · rcases he with ⟨z1, -⟩ | ⟨-, -, -, -, -, z5⟩
    · rw [z1] at z; cases z
    · exact ⟨hb, fun _ => ho', by rw [if_pos rfl, if_pos rfl]; exact z5⟩
  · obtain ⟨g1, g2, w, M, len, f, f', w1, w2, w3, w4, w5, w6, w7⟩ := h19 hg
    have hp := pq y
    exact ⟨g1, g2, w, M, len, f, f', w1, RXi.flw w2 (fun c hc => sI c (by omega)) (fun j _ => by rw [sI 8 (by decide), sI 9 (by decide)]; exact ⟨rfl, rfl⟩) (by rw [sI 112 (by decide)]) ⟨by rw [sI 111 (by decide)], by rw [sI 111 (by decide)]⟩ (f3 124 (by decide) (by decide) (by decide)) (sR' 112 7 (by decide)), RMi.flw w3 (MB_v w3.1 (fun c hc => tI c (by omega)) (fun j _ => by rw [tI 161 (by decide), tI 162 (by decide)]; exact ⟨rfl, rfl⟩) (fun c c1 c2 i hi => q3 c c1 c2 _ (by omega)) (fun u hu => q4 _ (by omega))) (fun c c1 c2 => tI c (by omega)) (fun j hj => tF j (by omega)) (q5 199 (by decide) (by decide)) (fun j hj => q6 j (by omega)), w4, w5, w6, fun l hl hk => by rw [q6 _ (by omega)]; exact w7 l hl hk⟩
theorem al_sound (h : IV0 s t) : ∃ (v : Int32) (s' t' : qS), qev en (d + 200) 236 [.ref 0, .int a1] s = some (some (.int v), s') ∧ qev en (d + 200) 405 [.ref 151, .int a1] t = some (some (.int v), t') ∧ IV0 s' t' := by
  obtain ⟨b, o, e, x, g, y, P, P2, V, U, cl, nc, nl, nt, m, N, th, K, bl, q⟩ := id h
  cases o with
  | false => exact ⟨_, s, t, rX_sound q.2.2.1.1, rM_sound q.2.2.1.2, h⟩
  | true =>
    obtain ⟨hb, ⟨bl2, go2, hrw⟩, hp2, hPV2, hB2⟩ := q.2.2.2.2.1 rfl
    have hP := q.2.2.2.1 hb
    have hPV : PV P nc nl nt N := hP.2.2.2.2.1
    obtain ⟨wd, hb0⟩ := PGx_wd hP
    have hN : N ≤ 100 := hP.1.2.1.2.2.1
    have hnt : nt ≤ 4 := hP.1.1.1.2.2
    obtain ⟨p1, p2, p3⟩ := hP.2.2.2.1
    obtain ⟨hin, hin2'⟩ := IVp_in q hb
    have hin2 := hin2' rfl
    have b1 : ¬ bt true = 0 := by decide
    by_cases c : a1 < 0 ∨ 2 < a1
    · refine ⟨-1, s, t, le_X11_sound en _ _ _ _ ?_, le_X12_sound en _ _ _ _ ?_, h⟩
      · rw [c_isWay, bI_some]
        by_cases c0 : a1 < 0
        · rw [if_pos c0, if_neg (not_not_intro rfl)]
        · rw [if_neg c0, if_pos (c.resolve_left c0), if_neg (not_not_intro rfl)]
      · by_cases c0 : a1 < 0
        · rw [if_pos c0]
        · rw [if_neg c0, if_neg (Int32.not_le.mpr (c.resolve_left c0))]
    · obtain ⟨w, hw, rfl⟩ := nI_of (fun z => c (Or.inl z))
      have hw2 : w ≤ 2 := by
        apply Nat.not_lt.mp
        intro z
        exact c (Or.inr (by rw [n_lt (by decide) hw]; exact z))
      have hb1 : ∀ i, i < N → vp_nar .boolean (t.1 175 (100 * 1 + i)) = t.1 175 (100 * 1 + i) := fun i hi => by
        have e := (hrw.2.2.1.2.2.2.2.2.1 i hi).2.1
        rw [show 100 * 1 + i = 100 + i by omega, e]
        cases go2 i <;> decide
      have h3 : ∀ u, u < nt → P2 3 u = P 3 u := fun u hu => by
        have e1 : s.1 39 = P2 3 := hp2.1 3 (by decide)
        have e2 : s.1 14 = P 3 := p1 3 (by decide)
        have e3 : s.1 39 u = nI (cl u) := (hrw.1.2.1 u hu).1
        have e4 : s.1 14 u = nI (cl u) := (hP.1.1.2.2.2.2.2 u (by omega)).1
        rw [← e1, ← e2, e3, e4]
      obtain ⟨r, s', r1, sq, fx, ax⟩ := x_sound (en := en) (d := d + 188) (τ := s) ⟨t, 0, hP.2.2.2.2.2⟩ ⟨t, 1, hB2⟩ hPV hPV2 h3 hw2 p1 hp2.1 ⟨by rw [p2]; decide, fun j hj => (p3 j (by omega)).1⟩ (fun j hj => (p3 j (by omega)).2) ⟨by rw [hp2.2.1]; decide, fun j _ => by rw [hp2.2.2.1]⟩ (fun j _ => by rw [hp2.2.2.2]) hin hin2 (by rw [q.2.2.1.1]; exact b1)
      obtain ⟨r', t', k1, sq', fm, am⟩ := m_sound2 (en := en) (d := d + 191) (n' := N) hPV hPV2 hw2 hP.2.2.2.2.2 hB2 hP.1.1.2.2.1.1 hP.1.1.2.2.1.2.1 hP.1.1.2.2.1.2.2 hP.1.2.1.2.1 (Nat.le_refl N) (Nat.le_refl N) hN (fun i hi => by rw [show 100 * 0 + i = i by omega]; exact hb0 i hi) hb1 hin hin2 (by rw [q.2.2.1.2]; exact b1)
      rw [q.1.2.2.2.1.2.1.2] at sq
      obtain ⟨er, eg⟩ := sndQ_eq sq sq'
      refine ⟨r, s', t', r1, by rw [er]; exact k1, ?_⟩
      rcases ax with ⟨ar, z1⟩ | ⟨ar, X2, eX, xv, xx, h11, h19⟩
      · rcases am with ⟨-, z2⟩ | ⟨br, -⟩
        · exact (IVp_s (e' := false) q hb rfl fx fm eg (Or.inl ⟨rfl, z1, z2⟩)).to
        · exact absurd (er.symm.trans ar) br
      · rcases am with ⟨br, -⟩ | ⟨-, X2', eX', xm, h148, h121, hK⟩
        · exact absurd (er.trans br) ar
        · have eXX : X2' = X2 := by rw [eX] at eX'; cases eX'; rfl
          subst eXX
          refine (IVp_s (e' := true) q hb rfl fx fm eg (Or.inr ⟨rfl, (x_fewer xx).2, xm.flat.2.2.2.1, h11, h148, w, false, X2', hw2, xx, xm, xv, expl_J hPV2 hw2 hin2 eX, ⟨expl_0 hPV2 hw2 hin2 eX, fun i hi => ?_, fun l hl hk => ?_⟩, Or.inl h19, Or.inl h121⟩)).to
          · rw [(hK i hi).1]
            have := hb1 i hi
            rw [show 100 * 1 + i = 100 + i by omega] at this
            exact this
          · rw [show 100 * 2 + l = 200 + l by omega, (hK l hl).2]
            obtain ⟨⟨k, ⟨kl, k2, -⟩, -⟩, -, -, g12⟩ := hrw.2.1 l hl
            have e7 : s.1 43 = P2 7 := hp2.1 7 (by decide)
            have e16 : s.1 52 = P2 16 := hp2.1 16 (by decide)
            have hk' : clp (P2 7 l) = 15 := hk
            have k2' : s.1 43 l = nI k := k2
            rw [← e7, k2', n_clp (by omega)] at hk'
            rw [← e16]
            exact g12 (by rw [k2', hk'])
end TOPM
