/-! REPLAY, both sides. -/
section RPB
variable {en : pN} {d d' w nc nl nt n n' p i v : Nat} {P : Nat → fI} {X : xT} {fw : Bool} {L : List Nat} {T : fI} {τ σ : qS} {a : Int32}
theorem mb_at {τ σ : qS} (hB : MB σ v P nc nl nt n) (h1 : ∀ a, a = 154 ∨ a = 155 ∨ a = 158 ∨ a = 161 ∨ a = 162 → τ.1 a = σ.1 a) (h2 : ∀ a, 164 ≤ a → a ≤ 179 → ∀ i, i < n → τ.1 a (100 * v + i) = σ.1 a (100 * v + i)) (h3 : ∀ t, t < nt → τ.1 181 (4 * v + t) = σ.1 181 (4 * v + t)) : MB τ v P nc nl nt n := by
  obtain ⟨b1, b2, b3, b4⟩ := hB
  refine ⟨b1, fun i hi => lnM_cp (fun r hr => h2 r hr.1 hr.2 i hi) (fun a ha => h1 a (by omega)) (b2 i hi), fun c hc => ?_, fun t ht => ?_⟩
  · rw [h1 154 (by decide), h1 155 (by decide)]; exact b3 c hc
  · rw [h1 158 (by decide), h3 t ht]; exact b4 t ht
theorem rp_loop (hP : PV P nc nl nt n) (hX : XV P w nc nl nt n X) (hw2 : w ≤ 2) (hi : i < xN X) (hL : pth (xF X) i i = L) (hl : L.length ≤ 200) (hT : ∀ j, j < L.length → T (L.length - 1 - j) = nI (L.getD j 0)) :
    ∀ (m z : Nat) (τ σ : qS) (N : fI) (f g : Nat → fI), z + m = L.length → RXi τ p P w N z f → RMi σ P w N nc nl nt n z g → SV P w nc nl nt n N → eqS (xS X (nds (xF X) i m)) N → (∀ a, a < z → sR P n f g a) → (∀ a, a < z → ∃ t, t < nt ∧ f 0 a = nI t) → fdX X (τ.1 91) → σ.1 151 128 = nI L.length → σ.1 230 = T →
    ∃ (r : Int32) (τ' σ' : qS) (N' : fI) (f' g' : Nat → fI), L_X11_replay_69 en (d + 8) (nI i) (nI L.length) (nI z) τ = some (some (.int r), τ') ∧ L_X12_replay_47 en (d' + 8) (nI z) σ = some (some (.int r), σ') ∧ frX τ τ' ∧ frM σ σ' ∧ SV P w nc nl nt n N' ∧ RXi τ' p P w N' L.length f' ∧ RMi σ' P w N' nc nl nt n L.length g' ∧ (∀ a, a < L.length → sR P n f' g' a) ∧ ∀ a, a < L.length → ∃ t, t < nt ∧ f' 0 a = nI t := by
  have hlim := @lim_le w
  have hxN := hX.1.2
  have hF := hX.2.2.2.2.2
  obtain ⟨pg, -⟩ := pth_get (Fd := xF X) (xN X) (fun i a1 a2 => (hF i a1 a2).1) i i (Nat.le_refl _) hi
  rw [hL] at pg
  intro m
  induction m with
  | zero =>
    intro z τ σ N f g hz hx hm hS _ hs hth _ h128 _
    have ez : z = L.length := by omega
    subst ez
    have hpic := rx_pic hx
    obtain ⟨hB, hN, hw, hll, hv, hf, hA⟩ := hx
    obtain ⟨F3, G3, R3, b3, e3, f3, -, -, -⟩ := x_list (en := en) (d := d + 2) (σ := rnS τ (nI L.length) f (τ.2.1 124)) (F := τ.1 112) (G := τ.1 10) (b := τ.1 7 4) (rn_XB hB) hP hS hw hw2
    rw [hpic, show (112 : Nat) + 3 = 115 from rfl, rn_r] at e3
    have hmpic := rm_pic hm
    obtain ⟨mB, mR, mW, ⟨h12, h16, h18, h76, h78, h74⟩, mg, mX⟩ := hm
    obtain ⟨F4, g4, R4, s4, e4, f4, hM4, -, -, -⟩ := m_readyNow (en := en) (d := d') (σ := σ) (K := σ.1 191) (W := σ.1 192) (F := σ.1 151) (s' := σ.1 187) (y := σ.1 188) (gg := σ.1 189) (D := σ.2.1 151 72) (g := g) (X := σ.2.1 199) mB hP hS mR h12 h16 h18 h76 hw2
    rw [hmpic] at e4
    refine ⟨nI (rdl P w N nt nt).length, mS (rnS (uIr τ 115 R3) (nI L.length) f (τ.2.1 124)) 112 F3 N b3 G3, mM (kpS (uIr σ 190 R4) (σ.1 191) (σ.1 192) g (σ.2.1 199)) F4 s4 (σ.1 188) g4 (σ.2.1 151 72), N, f, g, le_X11_replay_69 en _ _ _ _ _ _ ?_, le_X12_replay_47 en _ _ _ _ ?_, fx_pic, fm_pic (fun k hk _ _ => f4 k hk), hS, rx_mkR hB ((f3 8 (by decide)).trans hw) hv hA, rm_mk (mb_190 mB) mR mW hM4.1 hM4.2.1 hM4.2.2.1 ((f4 76 (by decide)).trans h76) ((f4 78 (by decide)).trans h78) (by rw [f4 74 (by decide)]; exact h74) mX, hs, hth⟩
    · rw [if_pos (by rw [n_LE (by omega) (by omega)]; exact Nat.le_refl _), e3, bI_some]
    · rw [h128, if_pos (by rw [n_LE (by omega) (by omega)]; exact Nat.le_refl _), e4, bI_some]
  | succ m ih =>
    intro z τ σ N f g hz hx hm hS he hs hth hfd h128 h230
    obtain ⟨g1, g2, g3⟩ := pg m (by omega)
    obtain ⟨q1, q2, q3, q4⟩ := hF (nds (xF X) i m) g2 g3
    have he : eqS (xS X (xF X (nds (xF X) i m)).1) N := he
    have hBx : MBx P nc nl nt n := ⟨σ, 3, hm.1⟩
    have hS1 := hX.2.1 (xF X (nds (xF X) i m)).1 (by omega)
    obtain ⟨r1, r2⟩ := rdl_rdS hP hS1 q4
    have r3 := cg_rdS en hBx hP hS1 hS hw2 he r1
    have st := cg_stp en hBx hP hS1 hS hw2 he r1 r2
    have hN' := q3.tr st
    generalize (xF X (nds (xF X) i m)).2 = b at g1 q2 r1 r2 r3 st hN'
    obtain ⟨told, τ1, x1, x2, x3, x4⟩ := x_stepR (en := en) (d := d + 1) hx hP hS hw2 r3 r2 (by omega)
    obtain ⟨F1, σ0, σ1, y0, y1, y2, y3, ⟨y4, y5, y6, y7⟩, y8⟩ := m_stepR (en := en) (d := d') hm hP hS hw2 r3 r2 (by omega)
    have hs' : ∀ a, a < z + 1 → sR P n (stR f z (stV P w N (b / 10) (b % 10) nt told)) (stR g z (msV (b / 10) (b % 10) F1)) a := fun a ha => by
      by_cases q : a = z
      · subst q; exact sR_new hP hS r3 y4 y5 y6 y7 x3
      · exact sR_cg (fun r => stR_o q) (fun r => stR_o q) (hs a (by omega))
    have ht' : ∀ a, a < z + 1 → ∃ t, t < nt ∧ stR f z (stV P w N (b / 10) (b % 10) nt told) 0 a = nI t := fun a ha => by
      by_cases q : a = z
      · subst q
        rw [stR_n (by decide)]
        exact ⟨b / 10, r3.1, rfl⟩
      · rw [stR_o q]; exact hth a (by omega)
    obtain ⟨r, τ', σ', N', f', g', k1, k2, k3, k4, k5⟩ := ih (z + 1) τ1 σ1 _ _ _ (by omega) x4 y8 (SV_stp hP hS hw2 r3 r2) hN' hs' ht' (by rw [x2.1 91 (by decide) (by decide) (by decide) (by decide) (by decide) (by decide) (by omega)]; exact hfd) (by rw [y3.2.1 128 (by omega) (by decide) (by decide)]; exact h128) (by rw [y3.1 230 (by decide) (by omega)]; exact h230)
    have ez : nI z + (1 : Int32) = nI (z + 1) := n_ar
    refine ⟨r, τ', σ', N', f', g', le_X11_replay_69 en _ _ _ _ _ _ ?_, le_X12_replay_47 en _ _ _ _ ?_, x2.tr k3, y3.tr k4, k5⟩
    · have e191 : qev en (d + 8) 191 [.ref 70, .int (nI i), .int (nI m)] τ = some (some (.int (nI b)), τ) := by
        have := x_schedStep (en := en) (d := d + 6) hfd (by omega) (K := m) (by omega) i i 0 (Nat.le_refl _) hi (Nat.zero_le _) (by rw [hL]; omega)
        rw [hL, Nat.sub_zero, g1] at this
        exact le_X10_scheduledStep en _ _ _ _ _ this
      have ei : nI L.length - (1 : Int32) = nI (L.length - 1) := by
        have := nI_pred (L.length - 1)
        rw [show L.length - 1 + 1 = L.length by omega] at this
        exact this
      rw [if_neg (by rw [n_LE (by omega) (by omega)]; omega), ei, n_sub (by omega), show L.length - 1 - z = m by omega, e191, bI_some, n_m10 (by omega), n_d10 (by omega), x1, bV_some, ez]
      exact k1
    · have hz2 := hT m (by omega)
      rw [show L.length - 1 - m = z by omega, g1] at hz2
      rw [h128, if_neg (by rw [n_LE (by omega) (by omega)]; omega), y0, bV_some, gd_true (n_in (by omega) (by decide)), n_cl (by omega), y1 230 (by decide) (by decide), h230, hz2, n_m10 (by omega), n_d10 (by omega), y2, bV_some, ez]
      exact k2
/-- what a replay may change on the model's side -/
abbrev frN3 (σ τ : qS) : Prop := (∀ a, a ≠ 151 → a ≠ 230 → (a < 164 ∨ (181 < a ∧ a < 187) ∨ 199 ≤ a) → τ.1 a = σ.1 a) ∧ (∀ a k, 164 ≤ a → a ≤ 179 → k < 300 → τ.1 a k = σ.1 a k) ∧ (∀ k, k < 12 → τ.1 181 k = σ.1 181 k) ∧ (∀ k, (k < 58 ∨ 74 ≤ k) → k ≠ 74 → k ≠ 76 → k ≠ 78 → k ≠ 128 → k ≠ 149 → τ.1 151 k = σ.1 151 k) ∧ (∀ a, a ≠ 151 → a ≠ 180 → a ≠ 199 → τ.2.1 a = σ.2.1 a) ∧ (∀ k, k < 300 → τ.2.1 180 k = σ.2.1 180 k) ∧ (∀ k, k ≠ 72 → τ.2.1 151 k = σ.2.1 151 k) ∧ τ.2.2 = σ.2.2
theorem replay_alike (hP : PV P nc nl nt n) (hX : XV P w nc nl nt n X) (hw2 : w ≤ 2) (hx : EXx P w nc nl nt n p fw X τ) (hm : EXm P w nc nl nt n fw X σ) (h0 : xS X 0 = fst0 P w nc nt (fun _ => 0)) (hin : ∀ c, c < nc → inR (P 4 c)) (h11 : isB (τ.1 0 11) = true) (h148 : isB (σ.1 151 148) = true) (h32 : σ.1 151 32 = nI n') (hn : n ≤ n') (hn' : n' ≤ 100) (hb : ∀ i, i < n' → vp_nar .boolean (σ.1 175 (200 + i)) = σ.1 175 (200 + i)) :
    ∃ (r : Int32) (τ' σ' : qS), qev en (d + 9) 226 [.ref 0, .int a] τ = some (some (.int r), τ') ∧ qev en (d' + 9) 377 [.ref 151, .int a] σ = some (some (.int r), σ') ∧
      ((τ' = τ ∧ σ' = σ) ∨ (τ' = τ ∧ ∃ c T, σ' = uIr (uI σ 151 128 c) 230 T) ∨ (frB τ τ' ∧ frN3 σ σ' ∧ τ'.1 0 12 = τ.1 0 11 ∧ σ'.1 151 149 = σ.1 151 148 ∧ ∃ (len : Nat) (N' : fI) (f' g' : Nat → fI), len ≤ 200 ∧ SV P w nc nl nt n N' ∧ RXi τ' p P w N' len f' ∧ RMi σ' P w N' nc nl nt n len g' ∧ (∀ a, a < len → sR P n f' g' a) ∧ ∀ a, a < len → ∃ t, t < nt ∧ f' 0 a = nI t)) := by
  have hlim := @lim_le w
  have hxN := hX.1.2
  have hc8 := hP.1.2
  obtain ⟨fx, -, -⟩ := hx.flat
  obtain ⟨fm, -, -, f98, f99, -⟩ := hm.flat
  rcases hasState_alike (en := en) (d := d + 7) (d' := d' + 7) (a := a) hX hx hm with ⟨e1, e2⟩ | ⟨i, hi, rfl, e1, e2⟩
  · refine ⟨-1, τ, σ, le_X11_replay en _ _ _ _ ?_, le_X12_replay en _ _ _ _ ?_, Or.inl ⟨rfl, rfl⟩⟩
    · rw [e1, bI_some, if_neg (fun z => z rfl)]
    · rw [e2, bI_some, if_neg (fun z => z rfl)]
  have hF := hX.2.2.2.2.2
  have hfx : fdX X (τ.1 91) := fun i a1 a2 => ⟨fx.1.1.2.2.2.2.2.2.2.1 i a1 a2, (hF i a1 a2).1, (hF i a1 a2).2.1⟩
  have hfm : fdM X σ := ⟨fm.2.2.2.2.2.2.2.1.1, fun i a1 a2 => ⟨(fm.2.2.2.2.2.2.1 i a1 a2).1, (fm.2.2.2.2.2.2.1 i a1 a2).2, (hF i a1 a2).1, (hF i a1 a2).2.1⟩⟩
  have hlen := pth_len (Fd := xF X) (xN X) (fun i a1 a2 => (hF i a1 a2).1) i i hi
  obtain ⟨-, pz⟩ := pth_get (Fd := xF X) (xN X) (fun i a1 a2 => (hF i a1 a2).1) i i (Nat.le_refl _) hi
  generalize hL : pth (xF X) i i = L at hlen pz
  have e190 : qev en (d + 8) 190 [.ref 70, .int (nI i)] τ = some (some (.int (nI L.length)), τ) := by
    have := x_schedLen (en := en) (d := d + 6) hfx (by omega) i i 0 0 (Nat.le_refl _) hi (by omega) (Nat.le_refl _)
    rw [Nat.zero_add, hL] at this
    exact le_X10_scheduleLength en _ _ _ _ this
  obtain ⟨T', t1, t2, -⟩ := m_lay45 (en := en) (d := d' + 7) (σ := uI σ 151 128 (nI L.length)) (by
    refine ⟨by rw [uI_ne (by decide)]; exact hfm.1, fun i a1 a2 => by rw [uI_ne (by decide), uI_ne (by decide)]; exact hfm.2 i a1 a2⟩) (by omega) i i ((uI σ 151 128 (nI L.length)).1 230) (Nat.le_refl _) hi
  rw [uIr_i, hL] at t1
  rw [hL] at t2
  generalize hσ' : uIr (uI σ 151 128 (nI L.length)) 230 T' = σ1 at t1
  have e374 : qev en (d' + 8) 374 [.ref 151, .int (nI i)] σ = some (none, σ1) := by
    refine le_X12_layPath en _ _ _ _ ?_
    rw [nm_eq]
    have h7 := m_lay7 (en := en) (d := d' + 7) (v1 := nI i) hfm (by omega) i i 0 (Nat.le_refl _) hi (by omega) (none, σ1)
    rw [Nat.zero_add, hL] at h7
    exact h7 t1
  have f128 : σ1.1 151 128 = nI L.length := by
    rw [← hσ', uIr_ne (by decide), g_I, if_pos ⟨rfl, rfl⟩]
  have f230 : σ1.1 230 = T' := by rw [← hσ']; exact uIr_row
  have o1 : ∀ c, c ≠ 151 → c ≠ 230 → σ1.1 c = σ.1 c := fun c h1 h2 => by rw [← hσ', uIr_ne h2, uI_ne h1]
  have o2 : ∀ j, j ≠ 128 → σ1.1 151 j = σ.1 151 j := fun j hj => by rw [← hσ', uIr_ne (by decide), g_I, if_neg (fun z => hj z.2)]
  have o3 : σ1.2 = σ.2 := by rw [← hσ']; rfl
  by_cases hl : L.length ≤ 200
  rotate_left
  · refine ⟨-3, τ, σ1, le_X11_replay en _ _ _ _ ?_, le_X12_replay en _ _ _ _ ?_, Or.inr (Or.inl ⟨rfl, nI L.length, T', hσ'.symm⟩)⟩
    · rw [e1, bI_some, if_pos (by decide), e190, bI_some, if_neg (by rw [n_ge (by decide) (by omega)]; exact hl)]
    · rw [e2, bI_some, if_pos (by decide), e374, bV_some, f128, if_neg (by rw [n_ge (by decide) (by omega)]; exact hl)]
  -- the class begins
  obtain ⟨b1, b2, b3, b4, b5, b6⟩ := fx.1.1.1
  have hw71 : τ.1 71 8 = nI w := fx.1.1.2.2.2.1
  have u0 : ∀ c, c ≠ 0 → (uI τ 0 12 (τ.1 0 11)).1 c = τ.1 c := fun c hc => uI_ne hc
  have hPX : PXi (uI τ 0 12 (τ.1 0 11)) p P := ⟨fun c hc => by rw [u0 _ (by omega)]; exact b4 c hc, by rw [u0 8 (by decide)]; exact b5, by rw [u0 9 (by decide)]; exact b6⟩
  obtain ⟨τ2, s1, s2, s3, s4⟩ := x_start (en := en) (d := d + 5) b2 hPX hP hw2
  -- the model begins
  obtain ⟨σ2, m1, m2, m3, m4, m5⟩ := m_begR (en := en) (d := d' + 4) (τ := σ1) (n' := n') (N := (uI τ 0 12 (τ.1 0 11)).1 113) (x := σ1.1 151 148) (mb_cg (fun c h1 h2 h3 => o1 c h3 (by omega)) fm.1) hP hw2 ((o2 12 (by decide)).trans fm.2.1.1) ((o2 16 (by decide)).trans fm.2.1.2.1) ((o2 18 (by decide)).trans fm.2.1.2.2) ((o2 32 (by decide)).trans h32) hn hn' (fun i hi => by rw [o1 175 (by decide) (by decide)]; exact hb i hi)
  have hS0 := f0_SV (M := (uI τ 0 12 (τ.1 0 11)).1 113) hP hw2 hin
  obtain ⟨r, τ', σ', N', f', g', k1, k2, k3, k4, k5, k6, k7, k8, k9⟩ := rp_loop (en := en) (d := d) (d' := d') (p := p) (T := T') hP hX hw2 hi hL hl t2 L.length 0 τ2 (uI σ2 151 149 (σ1.1 151 148)) _ _ _ (by omega) s3 m5 hS0 (by rw [pz, h0]; exact f0_eqS hc8) (fun a ha => absurd ha (Nat.not_lt_zero _)) (fun a ha => absurd ha (Nat.not_lt_zero _)) (by rw [s2.1 91 (by decide) (by decide) (by decide) (by decide) (by decide) (by decide) (by decide) (by omega), u0 91 (by decide)]; exact hfx) (by rw [m3.2.2.2.1 128 (by omega) (by decide) (by decide) (by decide) (by decide)]; exact f128) (by rw [m3.1 230 (by decide) (by omega)]; exact f230)
  refine ⟨r, τ', σ', le_X11_replay en _ _ _ _ ?_, le_X12_replay en _ _ _ _ ?_, Or.inr (Or.inr ⟨?_, ?_, ?_, ?_, L.length, N', f', g', hl, k5, k6, k7, k8, k9⟩)⟩
  · rw [e1, bI_some, if_pos (by decide), e190, bI_some, if_pos (by rw [n_ge (by decide) (by omega)]; exact hl), gd_true h11, nm_eq, show (uI τ 0 12 (τ.1 0 11)).2.2 71 7 = p + 1 from b3, gd_true ⟨by omega, by rcases b2 with z | z <;> subst z <;> rfl⟩, nm_eq, Nat.add_sub_cancel, u0 71 (by decide), hw71, s1, bV_some]
    exact k1
  · rw [e2, bI_some, if_pos (by decide), e374, bV_some, f128, if_pos (by rw [n_ge (by decide) (by omega)]; exact hl), o2 99 (by decide), f99, m1, bV_some, m2, gd_true (by rw [o2 148 (by decide)]; exact h148), nm_eq]
    exact k2
  · refine ⟨fun c h0 h7 h10 h111 h112 h113 h115 h118 => ?_, fun k hk => ?_, fun k hk => ?_, fun c hc => ?_, fun c k hk => ?_⟩
    · rw [k3.1 c h7 h10 h111 h112 h113 h115 h118, s2.1 c h0 h7 h10 h111 h112 h113 h115 h118, u0 c h0]
    · rw [k3.1 0 (by decide) (by decide) (by decide) (by decide) (by decide) (by decide) (by omega), s4, g_I, if_neg (fun z => hk z.2)]
    · rw [k3.2.1 k hk, s2.2.2.1 k hk, u0 7 (by decide)]
    · rw [k3.2.2.2.1 c hc, s2.2.2.2.1 c hc]; rfl
    · rw [k3.2.2.2.2, s2.2.2.2.2 c k hk]; rfl
  · refine ⟨fun c h1 h2 h3 => ?_, fun c k h1 h2 h3 => ?_, fun k hk => ?_, fun k h1 h2 h3 h4 h5 h6 => ?_, fun c h1 h2 h3 => ?_, fun k hk => ?_, fun k hk => ?_, ?_⟩
    · rw [k4.1 c h1 (by omega), m3.1 c h1 h3, o1 c h1 h2]
    · rw [k4.1 c (by omega) (by omega), m3.2.1 c k h1 h2 h3, o1 c (by omega) (by omega)]
    · rw [k4.1 181 (by decide) (by omega), m3.2.2.1 k hk, o1 181 (by decide) (by decide)]
    · rw [k4.2.1 k h1 h3 h4, m3.2.2.2.1 k h1 h2 h3 h4 h6, o2 k h5]
    · rw [k4.2.2.1 c h1 h3, m3.2.2.2.2.1 c h1 h2 h3, o3]
    · rw [k4.2.2.1 180 (by decide) (by decide), m3.2.2.2.2.2.1 k hk, o3]
    · rw [k4.2.2.2.1 k hk, m3.2.2.2.2.2.2.1 k hk, o3]
    · rw [k4.2.2.2.2, m3.2.2.2.2.2.2.2, o3]
  · rw [k3.1 0 (by decide) (by decide) (by decide) (by decide) (by decide) (by decide) (by omega), s4, g_I, if_pos ⟨rfl, rfl⟩]
  · rw [k4.2.1 149 (by omega) (by decide) (by decide), m4, o2 148 (by decide)]
end RPB
