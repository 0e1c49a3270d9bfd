/-! THE TOP: a run begins. -/
section TOPJ1
variable {en : pN} {d : Nat} {σ τ : qS} {w nc nl nt n n' len t : Nat} {P g : Nat → fI} {N : fI} {u : Int32}
theorem m_beginQ2 (hB : MB τ 0 P nc nl nt n) (hP : PV P nc nl nt n) (hin : ∀ c, c < nc → inR (P 4 c)) (h11 : ¬ τ.1 151 11 = 0) (h12 : τ.1 151 12 = nI nc) (h16 : τ.1 151 16 = nI nl) (h18 : τ.1 151 18 = nI nt) (h32 : τ.1 151 32 = nI n') (hn : n ≤ n') (hn' : n' ≤ 100) (hb : ∀ i, i < n' → vp_nar .boolean (τ.1 175 i) = τ.1 175 i) : ((u < 0 ∨ 2 < u) → qev en (d + 9) 332 [.ref 151, .int u] τ = some (some (.int (-1)), τ)) ∧ (∀ w, w ≤ 2 → u = nI w → ∃ τ', qev en (d + 9) 332 [.ref 151, .int u] τ = some (some (.int (nI (rdl P w (fst0 P w nc nt N) nt nt).length)), τ') ∧ frN τ τ' ∧ RMi τ' P w (fst0 P w nc nt N) nc nl nt n 0 (fun r => τ.1 (193 + r)) ∧ τ'.1 151 149 = 0 ∧ ∀ i, i < n' → τ'.2.1 180 (300 + i) = τ.2.1 180 i) := by
  refine ⟨fun hu => ?_, fun w hw2 hu => ?_⟩
  · refine le_X12_begin en (d + 8) _ _ _ ?_
    rw [if_neg h11]
    rcases hu with z | z
    · rw [if_pos z]
    · by_cases a0 : u < 0
      · rw [if_pos a0]
      · rw [if_neg a0, if_neg (Int32.not_le.mpr z)]
  · subst hu
    have hc8 := hP.1.2
    have ht4 := hP.2.2.1.2
    have hS := f0_SV (M := N) hP hw2 hin
    obtain ⟨K1, W1, F1, s1, y1, e1, hB3, hR1, hW1, f78, f74, f76, fo⟩ := m_beginRun (en := en) (d := d + 4) (N := N) (σ := τ) (v1 := 0) (w := w) (n' := n') (K := τ.1 191) (W := τ.1 192) (F := τ.1 151) (s := τ.1 187) (y := τ.1 188) (gg := τ.1 189) (g := fun r => τ.1 (193 + r)) (X := τ.2.1 199) (D := τ.2.1 151 72) hB (by decide) hw2 hc8 ht4 h12 h16 h18 h32 hn hn' (fun i hi => by rw [show 100 * 0 + i = i by omega]; exact hb i hi)
    rw [kp_id, mM_id] at e1
    have g12 : ∀ j, j ≠ 58 → j ≠ 59 → j ≠ 60 → j ≠ 74 → j ≠ 76 → j ≠ 78 → j ≠ 149 → (upd F1 149 0) j = τ.1 151 j := fun j a1 a2 a3 a4 a5 a6 a7 => by rw [pk_un a7]; exact fo j a1 a2 a3 a4 a5 a6
    have q12 := (g12 12 (by decide) (by decide) (by decide) (by decide) (by decide) (by decide) (by decide)).trans h12
    have q16 := (g12 16 (by decide) (by decide) (by decide) (by decide) (by decide) (by decide) (by decide)).trans h16
    have q18 := (g12 18 (by decide) (by decide) (by decide) (by decide) (by decide) (by decide) (by decide)).trans h18
    obtain ⟨F2, g2, R2, s2, e2, f2, hM2, -, -, -⟩ := m_readyNow (en := en) (d := d) (K := K1) (W := W1) (F := upd F1 149 0) (s' := s1) (y := y1) (gg := τ.1 189) (D := τ.2.1 151 72) (g := fun r => τ.1 (193 + r)) (X := τ.2.1 199) hB3 hP hS hR1 q12 q16 q18 (by rw [pk_un (by decide)]; exact f76) hw2
    refine ⟨mM (kpS (uIr (cpT (cpS τ 0 3 n') 0 3 nt) 190 R2) K1 W1 (fun r => τ.1 (193 + r)) (τ.2.1 199)) F2 s2 y1 g2 (τ.2.1 151 72), le_X12_begin en (d + 8) _ _ _ ?_, ?_, rm_mk (mb_190 hB3) hR1 (fun u hu => ?_) hM2.1 hM2.2.1 hM2.2.2.1 ?_ ?_ ?_ (fun i hi => absurd hi (Nat.not_lt_zero _)), ?_, fun i hi => ?_⟩
    · have nw : ¬ nI w < 0 := nI_pos (by omega)
      have nw2 : nI w ≤ (2 : Int32) := by rw [n_ge (by decide) (by omega)]; exact hw2
      rw [if_neg h11, if_neg nw, if_pos nw2, show (0 : Int32) = nI 0 from rfl, e1, bV_some, nm_eq, mM_wF]
      rw [show nI 0 = (0 : Int32) from rfl, e2, bI_some]
    · refine ⟨fun a z1 z2 => ?_, fun a k z1 z2 hk => ?_, fun k hk => ?_, fun k hk k1 k2 k3 k4 => ?_, fun a z1 z2 z3 => ?_, fun k hk => ?_, fun k hk => ?_, rfl⟩
      · have q : (kpS (uIr (cpT (cpS τ 0 3 n') 0 3 nt) 190 R2) K1 W1 (fun r => τ.1 (193 + r)) (τ.2.1 199)).1 a = (uIr (cpT (cpS τ 0 3 n') 0 3 nt) 190 R2).1 a := kp_o (by omega)
        rw [mM_o z1 (by omega) (by omega) (by omega), q, uIr_ne (by omega), cpT_o (by omega), cpS_o (by omega)]
      · have q : (kpS (uIr (cpT (cpS τ 0 3 n') 0 3 nt) 190 R2) K1 W1 (fun r => τ.1 (193 + r)) (τ.2.1 199)).1 a = (uIr (cpT (cpS τ 0 3 n') 0 3 nt) 190 R2).1 a := kp_o (by omega)
        rw [mM_o (by omega) (by omega) (by omega) (by omega), q, uIr_ne (by omega), cpT_o (by omega)]
        exact if_neg (by omega)
      · have q : (kpS (uIr (cpT (cpS τ 0 3 n') 0 3 nt) 190 R2) K1 W1 (fun r => τ.1 (193 + r)) (τ.2.1 199)).1 181 = (uIr (cpT (cpS τ 0 3 n') 0 3 nt) 190 R2).1 181 := kp_o (by decide)
        rw [mM_o (by decide) (by decide) (by decide) (by decide), q, uIr_ne (by decide)]
        have q2 : (cpT (cpS τ 0 3 n') 0 3 nt).1 181 k = (cpS τ 0 3 n').1 181 k := if_neg (by omega)
        rw [q2, cpS_o (by decide)]
      · rw [mM_F, f2 k hk]
        exact g12 k (by omega) (by omega) (by omega) k1 k2 k3 k4
      · rw [mM_J z1]
        funext k
        show (if a = 199 then τ.2.1 199 k else if a = 180 ∧ 100 * 3 ≤ k ∧ k < 100 * 3 + n' then _ else τ.2.1 a k) = τ.2.1 a k
        rw [if_neg z3, if_neg (fun z => z2 z.1)]
      · rw [mk_180]
        show (if 180 = 180 ∧ 100 * 3 ≤ k ∧ k < 100 * 3 + n' then τ.2.1 180 (k - 100 * 3 + 100 * 0) else τ.2.1 180 k) = τ.2.1 180 k
        exact if_neg (by omega)
      · show (if (151 : Nat) = 151 ∧ k = 72 then τ.2.1 151 72 else if (151 : Nat) = 199 then τ.2.1 199 k else if (151 : Nat) = 180 ∧ 100 * 3 ≤ k ∧ k < 100 * 3 + n' then τ.2.1 151 (k - 100 * 3 + 100 * 0) else τ.2.1 151 k) = τ.2.1 151 k
        rw [if_neg (fun z => hk z.2), if_neg (by decide), if_neg (fun z => absurd z.1 (by decide))]
    · rw [hW1 u hu, f0_at hc8, if_neg (by omega), if_neg (by omega), if_neg (by omega), if_neg (by omega), if_neg (by omega), if_neg (by omega), if_pos (by omega)]
    · rw [f2 76 (by decide), pk_un (by decide)]; exact f76
    · rw [f2 78 (by decide), pk_un (by decide), f78]; rfl
    · rw [f2 74 (by decide), pk_un (by decide), f74]; decide
    · rw [mM_F, f2 149 (by decide), pk_us]
    · rw [mk_180]
      show (if 180 = 180 ∧ 100 * 3 ≤ 300 + i ∧ 300 + i < 100 * 3 + n' then τ.2.1 180 (300 + i - 100 * 3 + 100 * 0) else τ.2.1 180 (300 + i)) = τ.2.1 180 i
      rw [if_pos ⟨rfl, by omega, by omega⟩, show 300 + i - 100 * 3 + 100 * 0 = i by omega]
end TOPJ1
section TOPJ
variable {en : pN} {d d' k i n N j r v u m nc nl nt key a w p len : Nat} {V cl th K : Nat → Nat} {U : Nat → Nat → Nat} {bl : Nat → List Nat} {go : Nat → Bool} {s s' t t' τ τ' σ σ' : qS} {e x g y b o o' e' x' g' y' fw : Bool} {z a1 a2 a3 : Int32} {P P2 P3 : Nat → fI} {X : xT} {F M T : fI} {f f' : Nat → fI}
/-- the words of the lines, the flags of the lines -/
theorem PGx_wd (h : PGx s t P V U cl nc nl nt m N th K bl) : WDv t 0 N P ∧ ∀ i, i < N → vp_nar .boolean (t.1 175 i) = t.1 175 i := by
  refine ⟨fun l hl hk => ?_, fun i hi => ?_⟩
  · obtain ⟨k, ⟨k1, k2, -⟩, -, -, -, -, -, -, -, -, -, -, k3, -⟩ := h.1.2.2.2.1 l hl
    have e7 : s.1 18 = P 7 := h.2.2.2.1.1 7 (by decide)
    have e16 : s.1 27 = P 16 := h.2.2.2.1.1 16 (by decide)
    rw [← e16, show 100 * 0 + l = l by omega]
    refine k3 ?_
    have : clp (P 7 l) = 15 := hk
    rw [← e7, k2, n_clp (by omega)] at this
    exact this
  · obtain ⟨k, -, -, -, -, -, -, ⟨-, y2⟩, -⟩ := h.1.2.2.2.1 i hi
    rw [y2]
    decide
theorem al_begin (h : IV0 s t) : ∃ (v : Int32) (s' t' : qS), qev en (d + 200) 207 [.ref 0, .int a1] s = some (some (.int v), s') ∧ qev en (d + 200) 332 [.ref 151, .int a1] t = some (some (.int v), t') ∧ IV0 s' t' := by
  obtain ⟨b, o, e, x, g, y, P, P2, V, U, cl, nc, nl, nt, m, N, th, K, bl, q⟩ := id h
  cases b with
  | false => exact ⟨-1, s, t, rX_begin q.2.1.1, rM_begin q.2.1.2, h⟩
  | true =>
    have hP := q.2.2.2.1 rfl
    have hPV : PV P nc nl nt N := hP.2.2.2.2.1
    obtain ⟨wd, hb⟩ := PGx_wd hP
    have hN : N ≤ 100 := hP.1.2.1.2.2.1
    obtain ⟨p1, p2, p3⟩ := hP.2.2.2.1
    have hPX : PXi s 11 P := ⟨p1, ⟨by rw [p2]; decide, fun j hj => (p3 j (by omega)).1⟩, fun j hj => (p3 j (by omega)).2⟩
    have hin := (IVp_in q rfl).1
    have b1 : ¬ bt true = 0 := by decide
    obtain ⟨x1, x2⟩ := x_beginQ (en := en) (d := d + 193) (u := a1) hPX hPV hin (by rw [q.2.1.1]; exact b1)
    obtain ⟨m1, m2⟩ := m_beginQ2 (en := en) (d := d + 191) (u := a1) (N := s.1 113) (n' := N) hP.2.2.2.2.2 hPV hin (by rw [q.2.1.2]; exact b1) hP.1.1.2.2.1.1 hP.1.1.2.2.1.2.1 hP.1.1.2.2.1.2.2 hP.1.2.1.2.1 (Nat.le_refl N) hN hb
    by_cases c : a1 < 0 ∨ 2 < a1
    · exact ⟨-1, s, t, x1 c, m1 c, h⟩
    · obtain ⟨w, hw, e1⟩ := nI_of (fun z => c (Or.inl z))
      have hw2 : w ≤ 2 := by
        apply Nat.not_lt.mp
        intro z
        exact c (Or.inr (by rw [e1, n_lt (by decide) hw]; exact z))
      obtain ⟨s', r1, f, r3, r4⟩ := x2 w hw2 e1
      obtain ⟨t', k1, k, k3, k4, k5⟩ := m2 w hw2 e1
      obtain ⟨Mt, h11, h12⟩ := q.1.2.2.2.2
      have sI : ∀ c, (c < 118 ∨ 124 ≤ c) ∧ c ≠ 0 ∧ c ≠ 7 ∧ c ≠ 10 ∧ c ≠ 111 ∧ c ≠ 112 ∧ c ≠ 113 ∧ c ≠ 115 → s'.1 c = s.1 c := fun c hc => f.1 c (by omega) (by omega) (by omega) (by omega) (by omega) (by omega) (by omega) (by omega)
      have m5 : ∀ j, (j < 58 ∨ 74 ≤ j) ∧ j ≠ 74 ∧ j ≠ 76 ∧ j ≠ 78 ∧ j ≠ 149 → t'.1 151 j = t.1 151 j := fun j hj => k.2.2.2.1 j (by omega) (by omega) (by omega) (by omega) (by omega)
      refine ⟨_, s', t', r1, k1, (IVp_r (g' := true) (y' := false) q (fun c c0 c1 c2 c3 c4 c5 c6 c7 => f.1 c c0 c1 c2 c3 c4 c5 c6 (by omega)) f.2.1 f.2.2.2.1 f.2.2.2.2 (fun c c1 _ c3 => k.1 c c1 (by omega)) (fun c c1 c2 j hj => k.2.1 c j c1 c2 hj) k.2.2.1 (fun j j1 j2 j3 j4 _ _ _ j8 => k.2.2.2.1 j j1 j2 j3 j4 j8) k.2.2.2.2.1 k.2.2.2.2.2.1 ⟨Mt, ?_, ?_⟩ ⟨⟨?_, ?_⟩, ?_, fun he => ?_, ⟨⟨fun z => absurd z r3.2.2.2.2.1, fun z => (by cases z)⟩, ⟨fun z => absurd z k3.2.2.2.1.2.2.2.2.2, fun z => (by cases z)⟩⟩, r4, fun _ => k4⟩ (fun _ => ⟨rfl, fun z => (by cases z), ?_⟩)).to⟩
      · unfold tdI; rw [sI 125 (by decide), sI 150 (by decide)]; exact h11
      · unfold tmI; rw [m5 96 (by decide), k.1 208 (by decide) (by decide)]; exact h12
      · rw [sI 70 (by decide)]; exact q.2.2.2.2.2.1.1.1
      · rw [m5 98 (by decide)]; exact q.2.2.2.2.2.1.1.2
      · rw [f.2.1 11 (by decide)]; exact q.2.2.2.2.2.1.2.1
      · rw [m5 148 (by decide)]; exact q.2.2.2.2.2.1.2.2.1 he
      · rw [if_neg (by decide), if_neg (by decide)]
        refine ⟨w, _, 0, _, _, ⟨hw2, by omega⟩, r3, k3, f0_SV (M := s.1 113) hPV hw2 hin, fun i hi => absurd hi (Nat.not_lt_zero i), fun i hi => absurd hi (Nat.not_lt_zero i), fun l hl hk => ?_⟩
        rw [show 100 * 3 + l = 300 + l by omega, k5 l hl]
        have := wd l hl hk
        rw [show 100 * 0 + l = l by omega] at this
        exact this
end TOPJ
