/-! THE TOP: an outcome's schedule run again. -/
section TOPL1
variable {en : pN} {d w nc nl nt n n' p t ch len : Nat} {P f g : Nat → fI} {τ τ' τ'' σ σ' σ'' : qS} {X : xT} {fw : Bool} {F F' N : fI} {x : Int32}
theorem m_begR2 (hB : MB τ 2 P nc nl nt n) (hP : PV P nc nl nt n) (hw2 : w ≤ 2) (h12 : τ.1 151 12 = nI nc) (h16 : τ.1 151 16 = nI nl) (h18 : τ.1 151 18 = nI nt) (h32 : τ.1 151 32 = nI n') (hn : n ≤ n') (hn' : n' ≤ 100) (hb : ∀ i, i < n' → vp_nar .boolean (τ.1 175 (200 + i)) = τ.1 175 (200 + i)) : ∃ τ1, qev en (d + 4) 330 [.ref 151, .int 2, .int (nI w)] τ = some (none, τ1) ∧ τ1.1 151 148 = τ.1 151 148 ∧ frN2 τ (uI τ1 151 149 x) ∧ (uI τ1 151 149 x).1 151 149 = x ∧ RMi (uI τ1 151 149 x) P w (fst0 P w nc nt N) nc nl nt n 0 (fun r => τ.1 (193 + r)) ∧ ∀ i, i < n' → (uI τ1 151 149 x).2.1 180 (300 + i) = τ.2.1 180 (200 + i) := by
  have hc8 := hP.1.2
  have ht4 := hP.2.2.1.2
  obtain ⟨K1, W1, F1, s1, y1, e1, hB3, hR1, hW1, f78, f74, f76, fo⟩ := m_beginRun (en := en) (d := d) (N := N) (σ := τ) (v1 := 2) (w := w) (n' := n') (K := τ.1 191) (W := τ.1 192) (F := τ.1 151) (s := τ.1 187) (y := τ.1 188) (gg := τ.1 189) (g := fun r => τ.1 (193 + r)) (X := τ.2.1 199) (D := τ.2.1 151 72) hB (by decide) hw2 hc8 ht4 h12 h16 h18 h32 hn hn' (fun i hi => hb i hi)
  rw [kp_id, mM_id] at e1
  refine ⟨_, e1, ?_, ?_, ?_, ?_, ?_⟩
  · rw [mM_F]; exact fo 148 (by decide) (by decide) (by decide) (by decide) (by decide) (by decide)
  all_goals rw [mM_wF]
  rotate_left
  · rw [mM_F, pk_us]
  · refine rm_mk hB3 hR1 (fun u hu => ?_) ?_ ?_ ?_ ?_ ?_ ?_ (fun i hi => absurd hi (Nat.not_lt_zero _))
    · rw [hW1 u hu, f0_at hc8, if_neg (by omega), if_neg (by omega), if_neg (by omega), if_neg (by omega), if_neg (by omega), if_neg (by omega), if_pos (by omega)]
    · rw [pk_un (by decide)]; exact (fo 12 (by decide) (by decide) (by decide) (by decide) (by decide) (by decide)).trans h12
    · rw [pk_un (by decide)]; exact (fo 16 (by decide) (by decide) (by decide) (by decide) (by decide) (by decide)).trans h16
    · rw [pk_un (by decide)]; exact (fo 18 (by decide) (by decide) (by decide) (by decide) (by decide) (by decide)).trans h18
    · rw [pk_un (by decide)]; exact f76
    · rw [pk_un (by decide), f78]; rfl
    · rw [pk_un (by decide), f74]; decide
  · intro i hi
    rw [mk_180]
    show (if 180 = 180 ∧ 100 * 3 ≤ 300 + i ∧ 300 + i < 100 * 3 + n' then τ.2.1 180 (300 + i - 100 * 3 + 100 * 2) else τ.2.1 180 (300 + i)) = _
    rw [if_pos ⟨rfl, by omega, by omega⟩, show 300 + i - 100 * 3 + 100 * 2 = 200 + i by omega]
  · refine ⟨fun a z1 z2 => ?_, fun a k z1 z2 hk => ?_, fun k hk => ?_, fun k hk k1 k2 k3 k5 => ?_, fun a z1 z2 z3 => ?_, fun k hk => ?_, fun k hk => ?_, rfl⟩
    · have q : (kpS (cpT (cpS τ 2 3 n') 2 3 nt) K1 W1 (fun r => τ.1 (193 + r)) (τ.2.1 199)).1 a = (cpT (cpS τ 2 3 n') 2 3 nt).1 a := kp_o (by omega)
      rw [mM_o z1 (by omega) (by omega) (by omega), q, cpT_o (by omega), cpS_o (by omega)]
    · have q : (kpS (cpT (cpS τ 2 3 n') 2 3 nt) K1 W1 (fun r => τ.1 (193 + r)) (τ.2.1 199)).1 a = (cpT (cpS τ 2 3 n') 2 3 nt).1 a := kp_o (by omega)
      rw [mM_o (by omega) (by omega) (by omega) (by omega), q, cpT_o (by omega)]
      exact if_neg (by omega)
    · have q : (kpS (cpT (cpS τ 2 3 n') 2 3 nt) K1 W1 (fun r => τ.1 (193 + r)) (τ.2.1 199)).1 181 = (cpT (cpS τ 2 3 n') 2 3 nt).1 181 := kp_o (by decide)
      rw [mM_o (by decide) (by decide) (by decide) (by decide), q]
      have q2 : (cpT (cpS τ 2 3 n') 2 3 nt).1 181 k = (cpS τ 2 3 n').1 181 k := if_neg (by omega)
      rw [q2, cpS_o (by decide)]
    · rw [mM_F, pk_un k5]
      exact fo k (by omega) (by omega) (by omega) k1 k2 k3
    · rw [mM_J z1]
      funext k
      show (if a = 199 then τ.2.1 199 k else if a = 180 ∧ 100 * 3 ≤ k ∧ k < 100 * 3 + n' then _ else τ.2.1 a k) = τ.2.1 a k
      rw [if_neg z3, if_neg (fun z => z2 z.1)]
    · rw [mk_180]
      show (if 180 = 180 ∧ 100 * 3 ≤ k ∧ k < 100 * 3 + n' then τ.2.1 180 (k - 100 * 3 + 100 * 2) else τ.2.1 180 k) = τ.2.1 180 k
      exact if_neg (by omega)
    · show (if (151 : Nat) = 151 ∧ k = 72 then τ.2.1 151 72 else if (151 : Nat) = 199 then τ.2.1 199 k else if (151 : Nat) = 180 ∧ 100 * 3 ≤ k ∧ k < 100 * 3 + n' then τ.2.1 151 (k - 100 * 3 + 100 * 2) else τ.2.1 151 k) = τ.2.1 151 k
      rw [if_neg (fun z => hk z.2), if_neg (by decide), if_neg (fun z => absurd z.1 (by decide))]
end TOPL1
section TOPL2
variable {en : pN} {d d' w nc nl nt n n' p i v : Nat} {P : Nat → fI} {X : xT} {fw : Bool} {L : List Nat} {T : fI} {τ σ : qS} {a : Int32}
theorem replay_alike2 (hP : PV P nc nl nt n) (hX : XV P w nc nl nt n X) (hw2 : w ≤ 2) (hx : EXx P w nc nl nt n p fw X τ) (hm : EXm P w nc nl nt n fw X σ) (h0 : xS X 0 = fst0 P w nc nt (fun _ => 0)) (hin : ∀ c, c < nc → inR (P 4 c)) (h11 : isB (τ.1 0 11) = true) (h148 : isB (σ.1 151 148) = true) (h32 : σ.1 151 32 = nI n') (hn : n ≤ n') (hn' : n' ≤ 100) (hb : ∀ i, i < n' → vp_nar .boolean (σ.1 175 (200 + i)) = σ.1 175 (200 + i)) :
    ∃ (r : Int32) (τ' σ' : qS), qev en (d + 9) 226 [.ref 0, .int a] τ = some (some (.int r), τ') ∧ qev en (d' + 9) 377 [.ref 151, .int a] σ = some (some (.int r), σ') ∧
      ((τ' = τ ∧ σ' = σ) ∨ (τ' = τ ∧ ∃ c T, σ' = uIr (uI σ 151 128 c) 230 T) ∨ (frB τ τ' ∧ (frN3 σ σ' ∧ ∀ i, i < n' → σ'.2.1 180 (300 + i) = σ.2.1 180 (200 + i)) ∧ τ'.1 0 12 = τ.1 0 11 ∧ σ'.1 151 149 = σ.1 151 148 ∧ ∃ (len : Nat) (N' : fI) (f' g' : Nat → fI), len ≤ 200 ∧ SV P w nc nl nt n N' ∧ RXi τ' p P w N' len f' ∧ RMi σ' P w N' nc nl nt n len g' ∧ (∀ a, a < len → sR P n f' g' a) ∧ ∀ a, a < len → ∃ t, t < nt ∧ f' 0 a = nI t)) := by
  have hlim := @lim_le w
  have hxN := hX.1.2
  have hc8 := hP.1.2
  obtain ⟨fx, -, -⟩ := hx.flat
  obtain ⟨fm, -, -, f98, f99, -⟩ := hm.flat
  rcases hasState_alike (en := en) (d := d + 7) (d' := d' + 7) (a := a) hX hx hm with ⟨e1, e2⟩ | ⟨i, hi, rfl, e1, e2⟩
  · refine ⟨-1, τ, σ, le_X11_replay en _ _ _ _ ?_, le_X12_replay en _ _ _ _ ?_, Or.inl ⟨rfl, rfl⟩⟩
    · rw [e1, bI_some, if_neg (fun z => z rfl)]
    · rw [e2, bI_some, if_neg (fun z => z rfl)]
  have hF := hX.2.2.2.2.2
  have hfx : fdX X (τ.1 91) := fun i a1 a2 => ⟨fx.1.1.2.2.2.2.2.2.2.1 i a1 a2, (hF i a1 a2).1, (hF i a1 a2).2.1⟩
  have hfm : fdM X σ := ⟨fm.2.2.2.2.2.2.2.1.1, fun i a1 a2 => ⟨(fm.2.2.2.2.2.2.1 i a1 a2).1, (fm.2.2.2.2.2.2.1 i a1 a2).2, (hF i a1 a2).1, (hF i a1 a2).2.1⟩⟩
  have hlen := pth_len (Fd := xF X) (xN X) (fun i a1 a2 => (hF i a1 a2).1) i i hi
  obtain ⟨-, pz⟩ := pth_get (Fd := xF X) (xN X) (fun i a1 a2 => (hF i a1 a2).1) i i (Nat.le_refl _) hi
  generalize hL : pth (xF X) i i = L at hlen pz
  have e190 : qev en (d + 8) 190 [.ref 70, .int (nI i)] τ = some (some (.int (nI L.length)), τ) := by
    have := x_schedLen (en := en) (d := d + 6) hfx (by omega) i i 0 0 (Nat.le_refl _) hi (by omega) (Nat.le_refl _)
    rw [Nat.zero_add, hL] at this
    exact le_X10_scheduleLength en _ _ _ _ this
  obtain ⟨T', t1, t2, -⟩ := m_lay45 (en := en) (d := d' + 7) (σ := uI σ 151 128 (nI L.length)) (by
    refine ⟨by rw [uI_ne (by decide)]; exact hfm.1, fun i a1 a2 => by rw [uI_ne (by decide), uI_ne (by decide)]; exact hfm.2 i a1 a2⟩) (by omega) i i ((uI σ 151 128 (nI L.length)).1 230) (Nat.le_refl _) hi
  rw [uIr_i, hL] at t1
  rw [hL] at t2
  generalize hσ' : uIr (uI σ 151 128 (nI L.length)) 230 T' = σ1 at t1
  have e374 : qev en (d' + 8) 374 [.ref 151, .int (nI i)] σ = some (none, σ1) := by
    refine le_X12_layPath en _ _ _ _ ?_
    rw [nm_eq]
    have h7 := m_lay7 (en := en) (d := d' + 7) (v1 := nI i) hfm (by omega) i i 0 (Nat.le_refl _) hi (by omega) (none, σ1)
    rw [Nat.zero_add, hL] at h7
    exact h7 t1
  have f128 : σ1.1 151 128 = nI L.length := by
    rw [← hσ', uIr_ne (by decide), g_I, if_pos ⟨rfl, rfl⟩]
  have f230 : σ1.1 230 = T' := by rw [← hσ']; exact uIr_row
  have o1 : ∀ c, c ≠ 151 → c ≠ 230 → σ1.1 c = σ.1 c := fun c h1 h2 => by rw [← hσ', uIr_ne h2, uI_ne h1]
  have o2 : ∀ j, j ≠ 128 → σ1.1 151 j = σ.1 151 j := fun j hj => by rw [← hσ', uIr_ne (by decide), g_I, if_neg (fun z => hj z.2)]
  have o3 : σ1.2 = σ.2 := by rw [← hσ']; rfl
  by_cases hl : L.length ≤ 200
  rotate_left
  · refine ⟨-3, τ, σ1, le_X11_replay en _ _ _ _ ?_, le_X12_replay en _ _ _ _ ?_, Or.inr (Or.inl ⟨rfl, nI L.length, T', hσ'.symm⟩)⟩
    · rw [e1, bI_some, if_pos (by decide), e190, bI_some, if_neg (by rw [n_ge (by decide) (by omega)]; exact hl)]
    · rw [e2, bI_some, if_pos (by decide), e374, bV_some, f128, if_neg (by rw [n_ge (by decide) (by omega)]; exact hl)]
  -- the class begins
  obtain ⟨b1, b2, b3, b4, b5, b6⟩ := fx.1.1.1
  have hw71 : τ.1 71 8 = nI w := fx.1.1.2.2.2.1
  have u0 : ∀ c, c ≠ 0 → (uI τ 0 12 (τ.1 0 11)).1 c = τ.1 c := fun c hc => uI_ne hc
  have hPX : PXi (uI τ 0 12 (τ.1 0 11)) p P := ⟨fun c hc => by rw [u0 _ (by omega)]; exact b4 c hc, by rw [u0 8 (by decide)]; exact b5, by rw [u0 9 (by decide)]; exact b6⟩
  obtain ⟨τ2, s1, s2, s3, s4⟩ := x_start (en := en) (d := d + 5) b2 hPX hP hw2
  -- the model begins
  obtain ⟨σ2, m1, m2, m3, m4, m5, m6⟩ := m_begR2 (en := en) (d := d' + 4) (τ := σ1) (n' := n') (N := (uI τ 0 12 (τ.1 0 11)).1 113) (x := σ1.1 151 148) (mb_cg (fun c h1 h2 h3 => o1 c h3 (by omega)) fm.1) hP hw2 ((o2 12 (by decide)).trans fm.2.1.1) ((o2 16 (by decide)).trans fm.2.1.2.1) ((o2 18 (by decide)).trans fm.2.1.2.2) ((o2 32 (by decide)).trans h32) hn hn' (fun i hi => by rw [o1 175 (by decide) (by decide)]; exact hb i hi)
  have hS0 := f0_SV (M := (uI τ 0 12 (τ.1 0 11)).1 113) hP hw2 hin
  obtain ⟨r, τ', σ', N', f', g', k1, k2, k3, k4, k5, k6, k7, k8, k9⟩ := rp_loop (en := en) (d := d) (d' := d') (p := p) (T := T') hP hX hw2 hi hL hl t2 L.length 0 τ2 (uI σ2 151 149 (σ1.1 151 148)) _ _ _ (by omega) s3 m5 hS0 (by rw [pz, h0]; exact f0_eqS hc8) (fun a ha => absurd ha (Nat.not_lt_zero _)) (fun a ha => absurd ha (Nat.not_lt_zero _)) (by rw [s2.1 91 (by decide) (by decide) (by decide) (by decide) (by decide) (by decide) (by decide) (by omega), u0 91 (by decide)]; exact hfx) (by rw [m3.2.2.2.1 128 (by omega) (by decide) (by decide) (by decide) (by decide)]; exact f128) (by rw [m3.1 230 (by decide) (by omega)]; exact f230)
  refine ⟨r, τ', σ', le_X11_replay en _ _ _ _ ?_, le_X12_replay en _ _ _ _ ?_, Or.inr (Or.inr ⟨?_, ⟨?_, fun i2 hi2 => ?_⟩, ?_, ?_, L.length, N', f', g', hl, k5, k6, k7, k8, k9⟩)⟩
  · rw [e1, bI_some, if_pos (by decide), e190, bI_some, if_pos (by rw [n_ge (by decide) (by omega)]; exact hl), gd_true h11, nm_eq, show (uI τ 0 12 (τ.1 0 11)).2.2 71 7 = p + 1 from b3, gd_true ⟨by omega, by rcases b2 with z | z <;> subst z <;> rfl⟩, nm_eq, Nat.add_sub_cancel, u0 71 (by decide), hw71, s1, bV_some]
    exact k1
  · rw [e2, bI_some, if_pos (by decide), e374, bV_some, f128, if_pos (by rw [n_ge (by decide) (by omega)]; exact hl), o2 99 (by decide), f99, m1, bV_some, m2, gd_true (by rw [o2 148 (by decide)]; exact h148), nm_eq]
    exact k2
  · refine ⟨fun c h0 h7 h10 h111 h112 h113 h115 h118 => ?_, fun k hk => ?_, fun k hk => ?_, fun c hc => ?_, fun c k hk => ?_⟩
    · rw [k3.1 c h7 h10 h111 h112 h113 h115 h118, s2.1 c h0 h7 h10 h111 h112 h113 h115 h118, u0 c h0]
    · rw [k3.1 0 (by decide) (by decide) (by decide) (by decide) (by decide) (by decide) (by omega), s4, g_I, if_neg (fun z => hk z.2)]
    · rw [k3.2.1 k hk, s2.2.2.1 k hk, u0 7 (by decide)]
    · rw [k3.2.2.2.1 c hc, s2.2.2.2.1 c hc]; rfl
    · rw [k3.2.2.2.2, s2.2.2.2.2 c k hk]; rfl
  · refine ⟨fun c h1 h2 h3 => ?_, fun c k h1 h2 h3 => ?_, fun k hk => ?_, fun k h1 h2 h3 h4 h5 h6 => ?_, fun c h1 h2 h3 => ?_, fun k hk => ?_, fun k hk => ?_, ?_⟩
    · rw [k4.1 c h1 (by omega), m3.1 c h1 h3, o1 c h1 h2]
    · rw [k4.1 c (by omega) (by omega), m3.2.1 c k h1 h2 h3, o1 c (by omega) (by omega)]
    · rw [k4.1 181 (by decide) (by omega), m3.2.2.1 k hk, o1 181 (by decide) (by decide)]
    · rw [k4.2.1 k h1 h3 h4, m3.2.2.2.1 k h1 h2 h3 h4 h6, o2 k h5]
    · rw [k4.2.2.1 c h1 h3, m3.2.2.2.2.1 c h1 h2 h3, o3]
    · rw [k4.2.2.1 180 (by decide) (by decide), m3.2.2.2.2.2.1 k hk, o3]
    · rw [k4.2.2.2.1 k hk, m3.2.2.2.2.2.2.1 k hk, o3]
    · rw [k4.2.2.2.2, m3.2.2.2.2.2.2.2, o3]
  · rw [k4.2.2.1 180 (by decide) (by decide), m6 i2 hi2, o3]
  · rw [k3.1 0 (by decide) (by decide) (by decide) (by decide) (by decide) (by decide) (by omega), s4, g_I, if_pos ⟨rfl, rfl⟩]
  · rw [k4.2.1 149 (by omega) (by decide) (by decide), m4, o2 148 (by decide)]
end TOPL2
section TOPL
variable {en : pN} {d d' k i n N j r v u m nc nl nt key a w p len : Nat} {V cl th K : Nat → Nat} {U : Nat → Nat → Nat} {bl : Nat → List Nat} {go : Nat → Bool} {s s' t t' τ τ' σ σ' : qS} {e x g y b o o' e' x' g' y' fw : Bool} {z a1 a2 a3 : Int32} {P P2 P3 : Nat → fI} {X : xT} {F M T : fI} {f f' : Nat → fI}
theorem al_replay (h : IV0 s t) : ∃ (v : Int32) (s' t' : qS), qev en (d + 200) 226 [.ref 0, .int a1] s = some (some (.int v), s') ∧ qev en (d + 200) 377 [.ref 151, .int a1] t = some (some (.int v), t') ∧ IV0 s' t' := by
  rcases IV0_e h with ⟨e1, e2⟩ | ⟨b, o, x, g, y, P, P2, V, U, cl, nc, nl, nt, m, N, th, K, bl, q⟩
  · exact ⟨-1, s, t, rX_replay e1, rM_replay e2, h⟩
  · obtain ⟨hb, hx, w, fw, X, w1, w2, w3, w4, w5, w6, w7, w8⟩ := q.2.2.2.2.2.2.1 rfl
    have hP := q.2.2.2.1 hb
    have hN : N ≤ 100 := hP.1.2.1.2.2.1
    have hf := q.2.2.2.2.2.1
    obtain ⟨v, s', t', r1, r2, hh⟩ := replay_alike2 (en := en) (d := d + 191) (d' := d + 191) (a := a1) (n' := N) (IVp_P q rfl) w4 w1 w2 w3 w6.1 (IVp_inx q rfl) (by rw [hf.2.1 rfl]; exact bt_B) (by rw [hf.2.2.1 rfl]; exact bt_B) hP.1.2.1.2.1 (Nat.le_refl N) hN w6.2.1
    refine ⟨v, s', t', r1, r2, ?_⟩
    rcases hh with ⟨rfl, rfl⟩ | ⟨rfl, c, T, rfl⟩ | ⟨f, ⟨k, kc⟩, h12, h149, len, M, f2, g2, l1, l2, l3, l4, l5, l6⟩
    · exact h
    · have o1 : ∀ j, j ≠ 151 → j ≠ 230 → (uIr (uI t 151 128 c) 230 T).1 j = t.1 j := fun j h1 h2 => by rw [uIr_ne h2, uI_ne h1]
      have o2 : ∀ j, j ≠ 128 → (uIr (uI t 151 128 c) 230 T).1 151 j = t.1 151 j := fun j hj => by rw [uIr_ne (by decide), g_I, if_neg (fun z => hj z.2)]
      refine (IVp_e (t' := uIr (uI t 151 128 c) 230 T) q (fun _ _ _ _ _ _ _ _ => rfl) rfl ⟨rfl, fun _ _ => rfl⟩ (fun c c1 c2 _ => o1 c c1 (by omega)) (fun j _ j2 _ => o2 j j2) (fun _ _ => rfl) (fun _ => ⟨w, fw, X, w1, w2, w3.fl (MB_fr w3.flat.1.1 (fun c hc => o1 c (by omega) (by omega)) (fun j _ => by rw [o1 161 (by decide) (by decide), o1 162 (by decide) (by decide)]; exact ⟨rfl, rfl⟩)) ⟨fun c c1 c2 => o1 c (by omega) (by omega), fun j hj => o2 j (by omega)⟩, w4, w5, ⟨w6.1, xtI_eq w6.2 (o1 175 (by decide) (by decide)) rfl⟩, w7, ?_⟩)).to
      unfold swm
      rw [o2 121 (by decide), o1 229 (by decide) (by decide)]
      exact w8
    · obtain ⟨Mt, h11, h12'⟩ := q.1.2.2.2.2
      have sI : ∀ c, (c < 118 ∨ 124 ≤ c) ∧ c ≠ 0 ∧ c ≠ 7 ∧ c ≠ 10 ∧ c ≠ 111 ∧ c ≠ 112 ∧ c ≠ 113 ∧ c ≠ 115 → s'.1 c = s.1 c := fun c hc => f.1 c (by omega) (by omega) (by omega) (by omega) (by omega) (by omega) (by omega) (by omega)
      have m5 : ∀ j, (j < 58 ∨ 74 ≤ j) ∧ j ≠ 74 ∧ j ≠ 76 ∧ j ≠ 78 ∧ j ≠ 128 ∧ j ≠ 149 → t'.1 151 j = t.1 151 j := fun j hj => k.2.2.2.1 j (by omega) (by omega) (by omega) (by omega) (by omega) (by omega)
      refine (IVp_r (g' := true) (y' := x) q (fun c c0 c1 c2 c3 c4 c5 c6 c7 => f.1 c c0 c1 c2 c3 c4 c5 c6 (by omega)) f.2.1 f.2.2.2.1 f.2.2.2.2 (fun c c1 c2 c3 => k.1 c c1 c2 (by omega)) (fun c c1 c2 j hj => k.2.1 c j c1 c2 hj) k.2.2.1 (fun j j1 j2 j3 j4 _ _ j7 j8 => k.2.2.2.1 j j1 j2 j3 j4 j7 j8) k.2.2.2.2.1 k.2.2.2.2.2.1 ⟨Mt, ?_, ?_⟩ ⟨⟨?_, ?_⟩, ?_, fun he => ?_, ⟨⟨fun z => absurd z l3.2.2.2.2.1, fun z => (by cases z)⟩, ⟨fun z => absurd z l4.2.2.2.1.2.2.2.2.2, fun z => (by cases z)⟩⟩, ?_, fun _ => ?_⟩ (fun _ => ⟨hb, hx, w, M, len, f2, g2, ⟨w1, l1⟩, l3, l4, l2, l5, l6, fun l hl hk => ?_⟩)).to
      · unfold tdI; rw [sI 125 (by decide), sI 150 (by decide)]; exact h11
      · unfold tmI; rw [m5 96 (by decide), k.1 208 (by decide) (by decide) (by decide)]; exact h12'
      · rw [sI 70 (by decide)]; exact hf.1.1
      · rw [m5 98 (by decide)]; exact hf.1.2
      · rw [f.2.1 11 (by decide)]; exact hf.2.1
      · rw [m5 148 (by decide)]; exact hf.2.2.1 he
      · rw [h12]; exact hf.2.1 rfl
      · rw [h149]; exact hf.2.2.1 rfl
      · rw [show 100 * 3 + l = 300 + l by omega, kc l hl]
        have := w6.2.2 l hl hk
        rw [show 100 * 2 + l = 200 + l by omega] at this
        exact this
end TOPL
