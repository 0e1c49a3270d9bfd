/-! THE TOP: all turns explored. -/
section TOPK1
variable {en : pN} {d w nc nl nt n n' p : Nat} {P : Nat → fI} {τ σ : qS} {X : xT} {fw : Bool} {u : Int32}
theorem explore_alike2 (hP : PV P nc nl nt n) (hPr : ∀ a, a < 25 → τ.1 (11 + a) = P a) (h8 : lmN P ≤ 500 ∧ ∀ j, j < lmN P → τ.1 8 j = P 25 j) (h9 : ∀ j, j < lmN P → τ.1 9 j = P 26 j) (h09 : ¬ τ.1 0 9 = 0) (hin : ∀ c, c < nc → inR (P 4 c))
    (hB : MB σ 0 P nc nl nt n) (h12 : σ.1 151 12 = nI nc) (h16 : σ.1 151 16 = nI nl) (h18 : σ.1 151 18 = nI nt) (h32 : σ.1 151 32 = nI n') (hn : n ≤ n') (hn' : n' ≤ 100) (hb : ∀ i, i < n' → vp_nar .boolean (σ.1 175 (100 * 0 + i)) = σ.1 175 (100 * 0 + i)) (h11 : ¬ σ.1 151 11 = 0) :
    ∃ (r : Int32) (τ' σ' : qS), qev en (d + 12) 220 [.ref 0, .int u, .int (bt fw)] τ = some (some (.int r), τ') ∧ qev en (d + 9) 366 [.ref 151, .int u, .int (bt fw)] σ = some (some (.int r), σ') ∧
      (((u < 0 ∨ 2 < u) ∧ τ' = τ ∧ σ' = σ) ∨ (frEx 11 τ τ' ∧ (frEm n' nt σ σ' ∧ ∀ i, i < n' → σ'.1 175 (200 + i) = σ.1 175 i ∧ σ'.2.1 180 (200 + i) = σ.2.1 180 i) ∧ τ'.1 0 11 = 0 ∧ σ'.1 151 148 = 0 ∧ ∃ w, w ≤ 2 ∧ u = nI w ∧ ((expl P w nc nl nt fw = none ∧ r = -3 ∧ τ'.1 70 17 = 0 ∧ σ'.1 151 98 = 0) ∨ ∃ X, expl P w nc nl nt fw = some X ∧ r = nI (xN X) ∧ XV P w nc nl nt n X ∧ EXx P w nc nl nt n 11 fw X τ' ∧ EXm P w nc nl nt n fw X σ'))) := by
  have hnt := hP.2.2.1
  by_cases hu0 : u < 0
  · refine ⟨-1, τ, σ, le_X11_explore en _ _ _ _ _ ?_, le_X12_explore en _ _ _ _ _ ?_, Or.inl ⟨Or.inl hu0, rfl, rfl⟩⟩
    · rw [if_neg h09, x_isWay (d := d + 10), bI_some, if_pos hu0, if_neg (fun z => z rfl)]
    · rw [if_neg h11, if_pos hu0]
  obtain ⟨w, hw, rfl⟩ := nI_of hu0
  by_cases hw2 : w ≤ 2
  rotate_left
  · have h2u : (2 : Int32) < nI w := by rw [show (2 : Int32) = nI 2 from rfl, n_LT (by omega) hw]; omega
    refine ⟨-1, τ, σ, le_X11_explore en _ _ _ _ _ ?_, le_X12_explore en _ _ _ _ _ ?_, Or.inl ⟨Or.inr h2u, rfl, rfl⟩⟩
    · rw [if_neg h09, x_isWay (d := d + 10), bI_some, if_neg hu0, if_pos h2u, if_neg (fun z => z rfl)]
    · rw [if_neg h11, if_neg hu0, if_neg (by rw [show (2 : Int32) = nI 2 from rfl, n_LE hw (by omega)]; exact hw2)]
  have hn2u : ¬ (2 : Int32) < nI w := by rw [show (2 : Int32) = nI 2 from rfl, n_LT (by omega) hw]; omega
  have hle2 : nI w ≤ (2 : Int32) := by rw [show (2 : Int32) = nI 2 from rfl, n_LE hw (by omega)]; exact hw2
  have hBx : MBx P nc nl nt n := ⟨σ, 0, hB⟩
  -- the class
  let τ1 : qS := uI τ 0 11 0
  have startx : ∀ r ρ, qev en (d + 11) 177 [.ref 70, .ref 11, .int (nI w), .int (bt fw)] τ1 = some (some (.int r), ρ) → qev en (d + 12) 220 [.ref 0, .int (nI w), .int (bt fw)] τ = some (some (.int r), ρ) := by
    intro r ρ hh
    refine le_X11_explore en _ _ _ _ _ ?_
    have hh' : qev en (d + 11) 177 [.ref 70, .ref 11, .int (nI w), .int (bt fw)] (uI τ 0 11 0) = some (some (.int r), ρ) := hh
    rw [if_neg h09, x_isWay (d := d + 10), bI_some, if_neg hu0, if_neg hn2u, if_pos (by decide), nm_eq, hh', bI_some]
  have hx := x_tryAll (en := en) (d := d) (p := 11) (w := w) (fw := fw) (σ := τ1) hBx hP hw2 (Or.inl rfl) (fun a ha => by rw [show τ1.1 (11 + a) = τ.1 (11 + a) from uI_ne (by omega)]; exact hPr a ha) (by rw [show τ1.1 8 = τ.1 8 from uI_ne (by decide)]; exact h8) (by rw [show τ1.1 9 = τ.1 9 from uI_ne (by decide)]; exact h9) hP.1.1 hP.2.1.1 hnt.1 hin
  -- the model
  let σ1 : qS := cpT (cpS σ 0 2 n') 0 2 nt
  have o151 : σ1.1 151 = σ.1 151 := by
    show (cpT (cpS σ 0 2 n') 0 2 nt).1 151 = _
    rw [cpT_o (by decide), cpS_o (by decide)]
  let σ2 : qS := uI σ1 151 148 0
  have e2 : mM σ2 (σ2.1 151) (σ2.1 187) (σ2.1 188) (σ2.1 189) (σ2.2.1 151 72) = σ2 := mM_id
  have f151 : ∀ j, j ≠ 148 → σ2.1 151 j = σ.1 151 j := fun j hj => by
    show (uI σ1 151 148 0).1 151 j = _
    rw [g_I, if_neg (fun z => hj z.2), o151]
  have startm : ∀ r ρ, qev en (d + 8) 365 [.ref 151, .int (nI w), .int (bt fw)] σ2 = some (some (.int r), ρ) → qev en (d + 9) 366 [.ref 151, .int (nI w), .int (bt fw)] σ = some (some (.int r), ρ) := by
    intro r ρ hh
    refine le_X12_explore en _ _ _ _ _ ?_
    have hc : qev en (d + 8) 293 [.ref 151, .int (0 : Int32), .int (2 : Int32)] σ = some (none, σ1) := m_copyP (v1 := 0) (v2 := 2) (d := d + 7) (by decide) (by decide) (by decide) h32 hn' h18 hnt.2 hb
    have hh' : qev en (d + 8) 365 [.ref 151, .int (nI w), .int (bt fw)] (uI σ1 151 148 0) = some (some (.int r), ρ) := hh
    rw [if_neg h11, if_neg hu0, if_pos hle2, hc, bV_some, nm_eq, hh', bI_some]
  have hB2 : MB σ2 2 P nc nl nt n := mb_cg (fun c h1 h2 h3 => uI_ne h3) (MB_cp (by decide) (by decide) hn hB)
  have hm := m_tryAll (en := en) (d := d) (w := w) (fw := fw) (σ := σ2) (F := σ2.1 151) (s := σ2.1 187) (y := σ2.1 188) (g := σ2.1 189) (D := σ2.2.1 151 72) hB2 hP hw2 ((f151 12 (by decide)).trans h12) ((f151 16 (by decide)).trans h16) ((f151 18 (by decide)).trans h18) hin
  rw [e2] at hm
  have frx : ∀ {ρ : qS} {F N G : fI} {b : Int32}, frTB 11 τ1 ρ → frEx 11 τ (mS ρ 71 F N b G) ∧ (mS ρ 71 F N b G).1 0 11 = 0 := fun {ρ F N G b} h => by
    refine ⟨⟨fun c h1 h7 h10 h0 => ?_, fun j hj => ?_, fun a h1 h2 => (h.2.1 a h1 h2).trans rfl, h.2.2.1, ?_⟩, ?_⟩
    · rw [mS_o (by omega) (by omega) h10 h7, h.1 c h1 h7 h10]; exact uI_ne h0
    · rw [mS_o (by decide) (by decide) (by decide) (by decide), h.1 0 (by decide) (by decide) (by decide)]
      show (uI τ 0 11 0).1 0 j = _
      rw [g_I, if_neg (fun z => hj z.2)]
    · rw [mS_o (by decide) (by decide) (by decide) (by decide)]; exact h.2.2.2
    · rw [mS_o (by decide) (by decide) (by decide) (by decide), h.1 0 (by decide) (by decide) (by decide)]
      show (uI τ 0 11 0).1 0 11 = _
      rw [g_I, if_pos ⟨rfl, rfl⟩]
  have frm : ∀ {ρ : qS} {F s y g : fI} {D : Int64}, fRt σ2 ρ (σ2.1 151) F → (frEm n' nt σ (mM ρ F s y g D) ∧ ∀ i, i < n' → (mM ρ F s y g D).1 175 (200 + i) = σ.1 175 i ∧ (mM ρ F s y g D).2.1 180 (200 + i) = σ.2.1 180 i) ∧ (mM ρ F s y g D).1 151 148 = 0 := fun {ρ F s y g D} h => by
    refine ⟨⟨⟨fun c h1 h2 h3 h4 h5 h6 h7 => ?_, fun j h1 h2 => ?_, fun c h1 h2 i hi => ?_, fun i hi => ?_, fun c h1 h2 => ?_, fun i hi => ?_, by rw [mM_F]; exact h.2.2.2⟩, fun i hi => ⟨?_, ?_⟩⟩, ?_⟩
    · rw [mM_o h3 h4 h5 h6, h.1 c h2 h7, show σ2.1 c = σ1.1 c from uI_ne h3]
      show (cpT (cpS σ 0 2 n') 0 2 nt).1 c = _
      rw [cpT_o (by omega), cpS_o (by omega)]
    · rw [mM_F, h.2.1 j h1]; exact f151 j h2
    · rw [mM_o (by omega) (by omega) (by omega) (by omega), h.1 c (by omega) (by omega), show σ2.1 c = σ1.1 c from uI_ne (by omega)]
      show (cpT (cpS σ 0 2 n') 0 2 nt).1 c i = _
      rw [cpT_o (by omega)]
      exact if_neg (by omega)
    · rw [mM_o (by decide) (by decide) (by decide) (by decide), h.1 181 (by decide) (by decide), show σ2.1 181 = σ1.1 181 from uI_ne (by decide)]
      show (if 181 = 181 ∧ 4 * 2 ≤ i ∧ i < 4 * 2 + nt then _ else (cpS σ 0 2 n').1 181 i) = _
      rw [if_neg (by omega), cpS_o (by decide)]
    · rw [mM_J h2, h.2.2.1]
      show (cpS σ 0 2 n').2.1 c = _
      funext i
      exact if_neg (fun z => h1 z.1)
    · rw [mM_J (by decide), h.2.2.1]
      show (cpS σ 0 2 n').2.1 180 i = _
      exact if_neg (by omega)
    · rw [mM_o (by decide) (by decide) (by decide) (by decide), h.1 175 (by decide) (by decide), show σ2.1 175 = σ1.1 175 from uI_ne (by decide)]
      show (cpT (cpS σ 0 2 n') 0 2 nt).1 175 (200 + i) = _
      rw [cpT_o (by decide)]
      show (if (164 ≤ 175 ∧ 175 ≤ 179) ∧ 100 * 2 ≤ 200 + i ∧ 200 + i < 100 * 2 + n' then σ.1 175 (200 + i - 100 * 2 + 100 * 0) else σ.1 175 (200 + i)) = _
      rw [if_pos ⟨⟨by decide, by decide⟩, by omega, by omega⟩, show 200 + i - 100 * 2 + 100 * 0 = i by omega]
    · rw [mM_J (by decide), h.2.2.1]
      show (if 180 = 180 ∧ 100 * 2 ≤ 200 + i ∧ 200 + i < 100 * 2 + n' then σ.2.1 180 (200 + i - 100 * 2 + 100 * 0) else σ.2.1 180 (200 + i)) = _
      rw [if_pos ⟨rfl, by omega, by omega⟩, show 200 + i - 100 * 2 + 100 * 0 = i by omega]
    · rw [mM_F, h.2.1 148 (by omega)]
      show (uI σ1 151 148 0).1 151 148 = _
      rw [g_I, if_pos ⟨rfl, rfl⟩]
  rcases hx with ⟨x1, ρ, F, N, G, b, x2, x3, x4⟩ | ⟨X, x1, x2, ρ, F, N, G, b, x3, x4, x5, x6, x7⟩
  · rcases hm with ⟨-, ρ', F', s', y', g', D', m2, m3, m4⟩ | ⟨X, m1, -⟩
    · refine ⟨-3, _, _, startx _ _ x2, startm _ _ m2, Or.inr ⟨(frx x3).1, (frm m3).1, (frx x3).2, (frm m3).2, w, hw2, rfl, Or.inl ⟨x1, rfl, ?_, ?_⟩⟩⟩
      · rw [mS_o (by decide) (by decide) (by decide) (by decide)]; exact x4
      · rw [mM_F]; exact m4
    · rw [x1] at m1; cases m1
  · rcases hm with ⟨m1, -⟩ | ⟨X', m1, -, ρ', F', s', y', g', D', m2, m3, m4, m5, m6, m7⟩
    · rw [x1] at m1; cases m1
    · have eX : X' = X := by rw [x1] at m1; cases m1; rfl
      subst eX
      exact ⟨nI (xN X'), _, _, startx _ _ x3, startm _ _ m2, Or.inr ⟨(frx x4).1, (frm m7).1, (frx x4).2, (frm m7).2, w, hw2, rfl, Or.inr ⟨X', x1, rfl, x2, ⟨ρ, F, N, G, b, rfl, x5, x6, x7⟩, ⟨ρ', F', s', y', g', D', rfl, m3.W m6.2.2.2, m4, m5, m6.1, m6.2.1, m6.2.2.1, rfl⟩⟩⟩⟩
end TOPK1
section TOPK
variable {en : pN} {d d' k i n N j r v u m nc nl nt key a w p len : Nat} {V cl th K : Nat → Nat} {U : Nat → Nat → Nat} {bl : Nat → List Nat} {go : Nat → Bool} {s s' t t' τ τ' σ σ' : qS} {e x g y b o o' e' x' g' y' fw : Bool} {z a1 a2 a3 : Int32} {P P2 P3 : Nat → fI} {X : xT} {F M T : fI} {f f' : Nat → fI}
/-- what exploring leaves as it is -/
theorem IVp_x (h : IVp s t b o e x g y P P2 V U cl nc nl nt m N th K bl) (hb : b = true) (f : frEx 11 s s') (q : frEm N nt t t') (hx : s'.1 0 11 = 0) (he : (e' = false ∧ s'.1 70 17 = 0 ∧ t'.1 151 98 = 0) ∨ (e' = true ∧ s'.1 70 17 = 1 ∧ t'.1 151 98 = 1 ∧ t'.1 151 148 = 0 ∧ xpI P 11 s' t' nc nl nt N)) : IVp s' t' b o e' false g y P P2 V U cl nc nl nt m N th K bl := by
  obtain ⟨⟨⟨n, B, h1, h2⟩, ⟨h3, h4⟩, h5, ⟨⟨h6, h7⟩, ⟨h8, h9⟩, h10⟩, ⟨Mt, h11, h12⟩⟩, h13, h14, h15, h16, h17, h18, h19⟩ := h
  have hP := h15 hb
  have hN : N ≤ 100 := hP.1.2.1.2.2.1
  have hnt : nt ≤ 4 := hP.1.1.1.2.2
  obtain ⟨f1, f2, f3, f4, f5⟩ := f
  obtain ⟨q1, q2, q3, q4, q5, q6, q7⟩ := q
  have sI : ∀ c, (c < 70 ∨ 99 ≤ c) ∧ c ≠ 7 ∧ c ≠ 10 ∧ c ≠ 0 → s'.1 c = s.1 c := fun c hc => f1 c hc.1 hc.2.1 hc.2.2.1 hc.2.2.2
  have sR' : ∀ c k, c ≠ 71 → s'.2.2 c k = s.2.2 c k := fun c k hc => by rw [f4, g_R, if_neg (fun z => hc z.1)]
  have tI : ∀ c, (c < 164 ∨ 181 < c) ∧ (c < 210 ∨ 226 < c) ∧ c ≠ 151 ∧ c ≠ 187 ∧ c ≠ 188 ∧ c ≠ 189 ∧ c ≠ 190 → t'.1 c = t.1 c := fun c hc => q1 c hc.1 hc.2.1 hc.2.2.1 hc.2.2.2.1 hc.2.2.2.2.1 hc.2.2.2.2.2.1 hc.2.2.2.2.2.2
  have tF : ∀ j, (j < 58 ∨ j = 61 ∨ (74 ≤ j ∧ j < 98) ∨ (104 ≤ j ∧ j < 115) ∨ (116 ≤ j ∧ j < 120) ∨ 122 ≤ j) ∧ j ≠ 148 → t'.1 151 j = t.1 151 j := fun j hj => q2 j hj.1 hj.2
  have pq : ∀ z : Bool, ((if z = true then 36 else 11) = 11 ∨ (if z = true then 36 else 11) = 36) := fun z => by cases z <;> simp
  refine ⟨⟨⟨n, B, ?_, ?_⟩, ⟨?_, ?_⟩, fun a k ha hk => ?_, ⟨⟨?_, ?_⟩, ⟨?_, ?_⟩, ?_⟩, ⟨Mt, ?_, ?_⟩⟩, ?_, ?_, fun _ => ?_, fun ho => ?_, ⟨?_, fun _ => hx, fun z => ?_, ?_, ?_, fun z => ?_⟩, fun z => ?_, fun hg => ?_⟩
  · unfold TX; rw [sI 1 (by decide), sI 2 (by decide)]; exact h1
  · unfold MX; rw [tF 1 (by decide), tI 152 (by decide)]; exact h2
  · rw [f3 3 (by decide) (by decide)]; exact h3
  · rw [f3 66 (by decide) (by decide)]; exact h4
  · have := ha.2
    rw [sR' a k (by omega)] at hk ⊢; exact h5 a k ha hk
  · rw [sI 65 (by decide), tF 9 (by decide)]; exact h6
  · rw [sI 65 (by decide), tF 10 (by decide)]; exact h7
  · rw [f2 13 (by decide), tF 131 (by decide)]; exact h8
  · rw [f2 14 (by decide), tF 150 (by decide)]; exact h9
  · rw [sI 103 (by decide)]; exact h10
  · unfold tdI; rw [sI 125 (by decide), sI 150 (by decide)]; exact h11
  · unfold tmI; rw [tF 96 (by decide), tI 208 (by decide)]; exact h12
  · rw [f2 9 (by decide), tF 11 (by decide)]; exact h13
  · rw [f2 10 (by decide), tF 147 (by decide)]; exact h14
  · exact PGx_fr hP ⟨fun c _ c2 => sI c (by omega), fun j _ => by rw [sI 8 (by decide), sI 9 (by decide)]; exact ⟨rfl, rfl⟩, sI 68 (by decide), fun c hc => f3 c (by omega) (by omega)⟩ ⟨fun c hc => tI c (by omega), fun j _ => by rw [tI 161 (by decide), tI 162 (by decide)]; exact ⟨rfl, rfl⟩, fun c c1 c2 j hj => q3 c c1 c2 j (by omega), fun j hj => q4 j (by omega), fun j hj => tF j (by omega), fun c hc => q5 c (by omega) (by omega), fun j hj => q6 j (by omega)⟩
  · obtain ⟨w1, w2⟩ := h16 ho
    exact ⟨w1, rwI_fr w2 (fun c hc => sI c (by omega)) ⟨fun c hc => tI c (by omega), fun j _ => by rw [tI 161 (by decide), tI 162 (by decide)]; exact ⟨rfl, rfl⟩, fun c c1 c2 j _ j2 => q3 c c1 c2 j (by omega), fun j _ j2 => q4 j (by omega), tF 32 (by decide), fun j _ j2 => q6 j (by omega)⟩⟩
  · rcases he with ⟨rfl, z2, z3⟩ | ⟨rfl, z2, z3, -⟩
    · exact ⟨z2, z3⟩
    · exact ⟨z2, z3⟩
  · rcases he with ⟨z1, -⟩ | ⟨-, -, -, z4, -⟩
    · rw [z1] at z; cases z
    · exact z4
  · rw [sI 111 (by decide), tF 74 (by decide)]; exact h17.2.2.2.1
  · rw [f2 12 (by decide)]; exact h17.2.2.2.2.1
  · rw [tF 149 (by decide)]; exact h17.2.2.2.2.2 z
  · rcases he with ⟨z1, -⟩ | ⟨-, -, -, -, z5⟩
    · rw [z1] at z; cases z
    · exact ⟨hb, fun z => (by cases z), by rw [if_neg (by decide), if_neg (by decide)]; exact z5⟩
  · obtain ⟨g1, g2, w, M, len, f, f', w1, w2, w3, w4, w5, w6, w7⟩ := h19 hg
    have hp := pq y
    exact ⟨g1, g2, w, M, len, f, f', w1, RXi.flw w2 (fun c hc => sI c (by omega)) (fun j _ => by rw [sI 8 (by decide), sI 9 (by decide)]; exact ⟨rfl, rfl⟩) (by rw [sI 112 (by decide)]) ⟨by rw [sI 111 (by decide)], by rw [sI 111 (by decide)]⟩ (f3 124 (by decide) (by decide)) (sR' 112 7 (by decide)), RMi.flw w3 (MB_v w3.1 (fun c hc => tI c (by omega)) (fun j _ => by rw [tI 161 (by decide), tI 162 (by decide)]; exact ⟨rfl, rfl⟩) (fun c c1 c2 i hi => q3 c c1 c2 _ (by omega)) (fun u hu => q4 _ (by omega))) (fun c c1 c2 => tI c (by omega)) (fun j hj => tF j (by omega)) (q5 199 (by decide) (by decide)) (fun j hj => q6 j (by omega)), w4, w5, w6, fun l hl hk => by rw [q6 _ (by omega)]; exact w7 l hl hk⟩
theorem al_explore (h : IV0 s t) : ∃ (v : Int32) (s' t' : qS), qev en (d + 200) 220 [.ref 0, .int a1, .int (bt fw)] s = some (some (.int v), s') ∧ qev en (d + 200) 366 [.ref 151, .int a1, .int (bt fw)] t = some (some (.int v), t') ∧ IV0 s' t' := by
  obtain ⟨b, o, e, x, g, y, P, P2, V, U, cl, nc, nl, nt, m, N, th, K, bl, q⟩ := id h
  cases b with
  | false => exact ⟨-1, s, t, rX_explore q.2.1.1, rM_explore q.2.1.2, h⟩
  | true =>
    have hP := q.2.2.2.1 rfl
    have hPV : PV P nc nl nt N := hP.2.2.2.2.1
    obtain ⟨wd, hb⟩ := PGx_wd hP
    have hN : N ≤ 100 := hP.1.2.1.2.2.1
    obtain ⟨p1, p2, p3⟩ := hP.2.2.2.1
    have hin := (IVp_in q rfl).1
    have b1 : ¬ bt true = 0 := by decide
    obtain ⟨v, s', t', r1, r2, hh⟩ := explore_alike2 (en := en) (d := d + 188) (fw := fw) (u := a1) (n' := N) hPV p1 ⟨by rw [p2]; decide, fun j hj => (p3 j (by omega)).1⟩ (fun j hj => (p3 j (by omega)).2) (by rw [q.2.1.1]; exact b1) hin hP.2.2.2.2.2 hP.1.1.2.2.1.1 hP.1.1.2.2.1.2.1 hP.1.1.2.2.1.2.2 hP.1.2.1.2.1 (Nat.le_refl N) hN (fun i hi => by rw [show 100 * 0 + i = i by omega]; exact hb i hi) (by rw [q.2.1.2]; exact b1)
    refine ⟨v, s', t', r1, qev_up 3 (d + 197) (by omega) r2, ?_⟩
    rcases hh with ⟨-, rfl, rfl⟩ | ⟨f, ⟨k, kc⟩, h11, h148, w, hw2, -, ⟨-, -, z1, z2⟩ | ⟨X, eX, -, xv, xx, xm⟩⟩
    · exact h
    · exact (IVp_x (e' := false) q rfl f k h11 (Or.inl ⟨rfl, z1, z2⟩)).to
    · refine (IVp_x (e' := true) q rfl f k h11 (Or.inr ⟨rfl, (x_fewer xx).2, xm.flat.2.2.2.1, h148, w, fw, X, hw2, xx, xm, xv, expl_J hPV hw2 hin eX, ⟨expl_0 hPV hw2 hin eX, fun i hi => ?_, fun l hl hk => ?_⟩, Or.inl f.2.2.2.2, Or.inl k.2.2.2.2.2.2⟩)).to
      · rw [(kc i hi).1]; exact hb i hi
      · rw [show 100 * 2 + l = 200 + l by omega, (kc l hl).2]
        have := wd l hl hk
        rw [show 100 * 0 + l = l by omega] at this
        exact this
end TOPK
