/-! THE TOP: questions on a run. -/
section TOPE
variable {en : pN} {d d' k i n N j r v u m nc nl nt key a w p len : Nat} {V cl th K : Nat → Nat} {U : Nat → Nat → Nat} {bl : Nat → List Nat} {go : Nat → Bool} {s s' t t' τ τ' σ σ' : qS} {e x g y b o o' e' x' g' y' fw : Bool} {z a1 a2 a3 : Int32} {P P2 P3 : Nat → fI} {X : xT} {F M T : fI} {f f' : Nat → fI}
/-- what a run's calls leave as it is -/
theorem IVp_r (h : IVp s t b o e x g y P P2 V U cl nc nl nt m N th K bl) (f1 : ∀ c, c ≠ 0 → c ≠ 7 → c ≠ 10 → c ≠ 111 → c ≠ 112 → c ≠ 113 → c ≠ 115 → (c < 118 ∨ 150 < c) → s'.1 c = s.1 c) (f0 : ∀ j, j ≠ 12 → s'.1 0 j = s.1 0 j) (f2 : ∀ c, c ≠ 124 → s'.2.1 c = s.2.1 c) (f3 : ∀ a k, ¬ (a = 112 ∧ k = 7) → s'.2.2 a k = s.2.2 a k) (q1 : ∀ c, c ≠ 151 → c ≠ 230 → (c < 164 ∨ (181 < c ∧ c < 187) ∨ 209 < c) → t'.1 c = t.1 c) (q2 : ∀ c, 164 ≤ c → c ≤ 179 → ∀ j, j < 300 → t'.1 c j = t.1 c j) (q3 : ∀ j, j < 12 → t'.1 181 j = t.1 181 j) (q4 : ∀ j, (j < 58 ∨ 74 ≤ j) → j ≠ 74 → j ≠ 76 → j ≠ 78 → j ≠ 87 → j ≠ 96 → j ≠ 128 → j ≠ 149 → t'.1 151 j = t.1 151 j) (q5 : ∀ c, c ≠ 151 → c ≠ 180 → c ≠ 199 → t'.2.1 c = t.2.1 c) (q6 : ∀ j, j < 300 → t'.2.1 180 j = t.2.1 180 j) (td : tdR s' t') (hf : flE s' t' e x g' y') (hr : g' = true → b = true ∧ (y' = true → o = true) ∧ ruI (if y' = true then P2 else P) (if y' = true then 36 else 11) s' t' nc nl nt N) : IVp s' t' b o e x g' y' P P2 V U cl nc nl nt m N th K bl := by
  obtain ⟨⟨⟨n, B, h1, h2⟩, ⟨h3, h4⟩, h5, ⟨⟨h6, h7⟩, ⟨h8, h9⟩, h10'⟩, -⟩, h13, h14, h15, h16, h17, h18, h19⟩ := h
  have sI : ∀ c, (c < 118 ∨ 150 < c) ∧ c ≠ 0 ∧ c ≠ 7 ∧ c ≠ 10 ∧ c ≠ 111 ∧ c ≠ 112 ∧ c ≠ 113 ∧ c ≠ 115 → s'.1 c = s.1 c := fun c hc => f1 c (by omega) (by omega) (by omega) (by omega) (by omega) (by omega) (by omega) (by omega)
  have tI : ∀ c, (c < 164 ∨ (181 < c ∧ c < 187) ∨ 209 < c) ∧ c ≠ 151 ∧ c ≠ 230 → t'.1 c = t.1 c := fun c hc => q1 c hc.2.1 hc.2.2 hc.1
  have m5 : ∀ j, (j < 58 ∨ 74 ≤ j) ∧ j ≠ 74 ∧ j ≠ 76 ∧ j ≠ 78 ∧ j ≠ 87 ∧ j ≠ 96 ∧ j ≠ 128 ∧ j ≠ 149 → t'.1 151 j = t.1 151 j := fun j hj => q4 j (by omega) (by omega) (by omega) (by omega) (by omega) (by omega) (by omega) (by omega)
  have mbv : ∀ (v : Nat) (Q : Nat → fI), v ≤ 2 → N ≤ 100 → nt ≤ 4 → MB t v Q nc nl nt N → MB t' v Q nc nl nt N := fun v Q hv hN hnt hB => MB_v hB (fun c hc => tI c (by omega)) (fun j _ => by rw [tI 161 (by decide), tI 162 (by decide)]; exact ⟨rfl, rfl⟩) (fun c c1 c2 i hi => q2 c c1 (by omega) _ (by omega)) (fun u hu => q3 _ (by omega))
  have pq : ∀ z : Bool, ((if z = true then 36 else 11) = 11 ∨ (if z = true then 36 else 11) = 36) := fun z => by cases z <;> simp
  refine ⟨⟨⟨n, B, ?_, ?_⟩, ⟨?_, ?_⟩, fun a k ha hk => ?_, ⟨⟨?_, ?_⟩, ⟨?_, ?_⟩, ?_⟩, td⟩, ?_, ?_, fun hb => ?_, fun ho => ?_, hf, fun z => ?_, hr⟩
  · unfold TX; rw [sI 1 (by decide), sI 2 (by decide)]; exact h1
  · unfold MX; rw [m5 1 (by decide), tI 152 (by decide)]; exact h2
  · rw [f2 3 (by decide)]; exact h3
  · rw [f2 66 (by decide)]; exact h4
  · have := ha.2
    rw [f3 a k (by omega)] at hk ⊢; exact h5 a k ha hk
  · rw [sI 65 (by decide), m5 9 (by decide)]; exact h6
  · rw [sI 65 (by decide), m5 10 (by decide)]; exact h7
  · rw [f0 13 (by decide), m5 131 (by decide)]; exact h8
  · rw [f0 14 (by decide), m5 150 (by decide)]; exact h9
  · rw [sI 103 (by decide)]; exact h10'
  · rw [f0 9 (by decide), m5 11 (by decide)]; exact h13
  · rw [f0 10 (by decide), m5 147 (by decide)]; exact h14
  · exact PGx_fr (h15 hb) ⟨fun c c1 c2 => sI c (by omega), fun j _ => by rw [sI 8 (by decide), sI 9 (by decide)]; exact ⟨rfl, rfl⟩, sI 68 (by decide), fun c hc => f2 c (by omega)⟩ ⟨fun c hc => tI c (by omega), fun j _ => by rw [tI 161 (by decide), tI 162 (by decide)]; exact ⟨rfl, rfl⟩, fun c c1 c2 j hj => q2 c c1 (by omega) j (by omega), fun j hj => q3 j (by omega), fun j hj => m5 j (by omega), fun c hc => q5 c (by omega) (by omega) (by omega), fun j hj => q6 j (by omega)⟩
  · obtain ⟨w1, w2⟩ := h16 ho
    exact ⟨w1, rwI_fr w2 (fun c hc => sI c (by omega)) ⟨fun c hc => tI c (by omega), fun j _ => by rw [tI 161 (by decide), tI 162 (by decide)]; exact ⟨rfl, rfl⟩, fun c c1 c2 j j1 j2 => q2 c c1 c2 j (by omega), fun j j1 j2 => q3 j (by omega), m5 32 (by decide), fun j j1 j2 => q6 j (by omega)⟩⟩
  · obtain ⟨g1, g2, w, fw, X, w1, w2, w3, w4, w5, w6, w7, w8⟩ := h18 z
    have hP := h15 g1
    have hN : N ≤ 100 := hP.1.2.1.2.2.1
    have hnt : nt ≤ 4 := hP.1.1.1.2.2
    have hp := pq x
    refine ⟨g1, g2, w, fw, X, w1, w2.fl ⟨fun c hc => sI c (by omega), fun j hj => by rw [sI 70 (by decide)], f2 84 (by decide), f3 71 7 (by decide)⟩, w3.fl (mbv 2 _ (by decide) hN hnt w3.flat.1.1) ⟨fun c c1 _ => tI c (by omega), fun j hj => m5 j (by omega)⟩, w4, w5, ⟨w6.1, xtI_fr w6.2 hN (fun j j1 j2 => q2 175 (by decide) (by decide) j j2) (fun j j1 j2 => q6 j j2)⟩, ?_, ?_⟩
    · unfold swx; rw [sI 70 (by decide), sI 96 (by decide)]; exact w7
    · unfold swm; rw [m5 121 (by decide), tI 229 (by decide)]; exact w8
/-- within a run: the programs as they are told -/
theorem IVp_rP (h : IVp s t b o e x g y P P2 V U cl nc nl nt m N th K bl) (hg : g = true) : PV (if y = true then P2 else P) nc nl nt N ∧ (s.1 11 9 = nI nc ∧ s.1 11 10 = nI nl ∧ s.1 11 11 = nI nt) ∧ ∀ u, u < nt → (s.1 14 u = nI (lct (if y = true then P2 else P) u) ∧ lct (if y = true then P2 else P) u ≤ 6) ∧ t.1 159 u = nI (lct (if y = true then P2 else P) u) := by
  obtain ⟨-, -, -, h15, h16, -, -, h19⟩ := h
  obtain ⟨hb, hy, -⟩ := h19 hg
  have hP := h15 hb
  have hnt : nt ≤ 4 := hP.1.1.1.2.2
  have hL := hP.1.1.2.2.2.2.2
  have e3 : s.1 14 = P 3 := hP.2.2.2.1.1 3 (by decide)
  have key : ∀ u, u < nt → lct (if y = true then P2 else P) u = cl u := fun u hu => by
    obtain ⟨l1, -, l3, -⟩ := hL u (by omega)
    cases y with
    | false =>
      rw [if_neg (by decide)]
      show clp (P 3 u) = _
      rw [← e3, l1]
      exact n_clp (by omega)
    | true =>
      rw [if_pos rfl]
      obtain ⟨-, ⟨bl', go, g2⟩, g3, -⟩ := h16 (hy rfl)
      have q1 : s.1 39 u = nI (cl u) := (g2.1.2.1 u hu).1
      have q2 : s.1 39 = P2 3 := g3.1 3 (by decide)
      show clp (P2 3 u) = _
      rw [← q2, q1]
      exact n_clp (by omega)
  refine ⟨?_, hP.1.1.2.1, fun u hu => ?_⟩
  · cases y with
    | true => rw [if_pos rfl]; exact (h16 (hy rfl)).2.2.2.1
    | false => rw [if_neg (by decide)]; exact hP.2.2.2.2.1
  · rw [key u hu]
    obtain ⟨l1, l2, l3, -⟩ := hL u (by omega)
    exact ⟨⟨l1, l3⟩, l2.1 hu⟩
theorem IV0_g (h : IV0 s t) : (s.1 111 4 = 0 ∧ t.1 151 74 = 0) ∨ ∃ (b o e x y : Bool) (P P2 : Nat → fI) (V : Nat → Nat) (U : Nat → Nat → Nat) (cl : Nat → Nat) (nc nl nt m N : Nat) (th K : Nat → Nat) (bl : Nat → List Nat), IVp s t b o e x true y P P2 V U cl nc nl nt m N th K bl := by
  obtain ⟨b, o, e, x, g, y, P, P2, V, U, cl, nc, nl, nt, m, N, th, K, bl, h⟩ := h
  cases g with
  | false => exact Or.inl ⟨h.2.2.2.2.2.1.2.2.2.1.1.mpr rfl, h.2.2.2.2.2.1.2.2.2.1.2.mpr rfl⟩
  | true => exact Or.inr ⟨b, o, e, x, y, P, P2, V, U, cl, nc, nl, nt, m, N, th, K, bl, h⟩
/-- frX and frM -/
theorem IVp_rt (h : IVp s t b o e x true y P P2 V U cl nc nl nt m N th K bl) (f1 : frX s s') (f2 : frM t t') (h4 : s'.1 111 4 = s.1 111 4) (hr : ruI (if y = true then P2 else P) (if y = true then 36 else 11) s' t' nc nl nt N) : IV0 s' t' := by
  obtain ⟨Mt, h11, h12⟩ := h.1.2.2.2.2
  have sI := f1.1
  have m5 : ∀ j, (j < 58 ∨ 74 ≤ j) ∧ j ≠ 76 ∧ j ≠ 78 → t'.1 151 j = t.1 151 j := fun j hj => f2.2.1 j hj.1 hj.2.1 hj.2.2
  have e0 : s'.1 0 = s.1 0 := sI 0 (by decide) (by decide) (by decide) (by decide) (by decide) (by decide) (by decide)
  have e70 : s'.1 70 = s.1 70 := sI 70 (by decide) (by decide) (by decide) (by decide) (by decide) (by decide) (by decide)
  refine (IVp_r (g' := true) (y' := y) h (fun c _ c2 c3 c4 c5 c6 c7 c8 => sI c c2 c3 c4 c5 c6 c7 (by omega)) (fun j _ => by rw [e0]) f1.2.2.2.1 (fun a k _ => by rw [f1.2.2.2.2]) (fun c c1 _ c3 => f2.1 c c1 (by omega)) (fun c c1 c2 j _ => by rw [f2.1 c (by omega) (by omega)]) (fun j _ => by rw [f2.1 181 (by decide) (by decide)]) (fun j j1 _ j3 j4 _ _ _ _ => f2.2.1 j j1 j3 j4) (fun c c1 _ c3 => f2.2.2.1 c c1 c3) (fun j _ => by rw [f2.2.2.1 180 (by decide) (by decide)]) ⟨Mt, ?_, ?_⟩ ?_ (fun hg => ?_)).to
  · unfold tdI
    rw [sI 125 (by decide) (by decide) (by decide) (by decide) (by decide) (by decide) (by decide), sI 150 (by decide) (by decide) (by decide) (by decide) (by decide) (by decide) (by decide)]
    exact h11
  · unfold tmI
    rw [m5 96 (by decide), f2.1 208 (by decide) (by decide)]
    exact h12
  · unfold flE
    rw [e0, e70, h4, m5 98 (by decide), m5 148 (by decide), m5 74 (by decide), m5 149 (by decide)]
    exact h.2.2.2.2.2.1
  · exact ⟨(h.2.2.2.2.2.2.2 hg).1, (h.2.2.2.2.2.2.2 hg).2.1, hr⟩
theorem al_thread (h : IV0 s t) : ∃ (v : Int32) (s' t' : qS), qev en (d + 200) 210 [.ref 0, .int a1, .int a2] s = some (some (.int v), s') ∧ qev en (d + 200) 337 [.ref 151, .int a1, .int a2] t = some (some (.int v), t') ∧ IV0 s' t' := by
  rcases IV0_g h with ⟨e1, e2⟩ | ⟨b, o, e, x, y, P, P2, V, U, cl, nc, nl, nt, m, N, th, K, bl, q⟩
  · exact ⟨-1, s, t, rX_thread e1, rM_thread e2, h⟩
  · obtain ⟨hb, -, w, M, len, f, f', w1, w2, w3, w4, w5, w6, w7⟩ := q.2.2.2.2.2.2.2 rfl
    obtain ⟨p1, p2, p3⟩ := IVp_rP q rfl
    exact ⟨_, s, t, x_thread w2 p2.2.2 p1.2.2.1.2, m_thread w3 p1 w4 w1.1, h⟩
theorem al_cell (h : IV0 s t) : ∃ (v : Int32) (s' t' : qS), qev en (d + 200) 212 [.ref 0, .int a1] s = some (some (.int v), s') ∧ qev en (d + 200) 339 [.ref 151, .int a1] t = some (some (.int v), t') ∧ IV0 s' t' := by
  rcases IV0_g h with ⟨e1, e2⟩ | ⟨b, o, e, x, y, P, P2, V, U, cl, nc, nl, nt, m, N, th, K, bl, q⟩
  · exact ⟨-1000, s, t, rX_cell e1, rM_cell e2, h⟩
  · obtain ⟨hb, -, w, M, len, f, f', w1, w2, w3, w4, w5, w6, w7⟩ := q.2.2.2.2.2.2.2 rfl
    obtain ⟨p1, p2, p3⟩ := IVp_rP q rfl
    exact ⟨_, s, t, x_cellQ w2 p2.1 p1.1.2, m_cellQ w3 p1.1.2, h⟩
theorem al_held (h : IV0 s t) : ∃ (v : Int32) (s' t' : qS), qev en (d + 200) 214 [.ref 0, .int a1, .int a2] s = some (some (.int v), s') ∧ qev en (d + 200) 341 [.ref 151, .int a1, .int a2] t = some (some (.int v), t') ∧ IV0 s' t' := by
  rcases IV0_g h with ⟨e1, e2⟩ | ⟨b, o, e, x, y, P, P2, V, U, cl, nc, nl, nt, m, N, th, K, bl, q⟩
  · exact ⟨-1, s, t, rX_held e1, rM_held e2, h⟩
  · obtain ⟨hb, -, w, M, len, f, f', w1, w2, w3, w4, w5, w6, w7⟩ := q.2.2.2.2.2.2.2 rfl
    obtain ⟨p1, p2, p3⟩ := IVp_rP q rfl
    exact ⟨_, s, t, x_held w2 p2.2.1 p1.2.1.2, m_held w3 p1 w4, h⟩
theorem al_local (h : IV0 s t) : ∃ (v : Int32) (s' t' : qS), qev en (d + 200) 211 [.ref 0, .int a1, .int a2] s = some (some (.int v), s') ∧ qev en (d + 200) 338 [.ref 151, .int a1, .int a2] t = some (some (.int v), t') ∧ IV0 s' t' := by
  rcases IV0_g h with ⟨e1, e2⟩ | ⟨b, o, e, x, y, P, P2, V, U, cl, nc, nl, nt, m, N, th, K, bl, q⟩
  · exact ⟨-1, s, t, rX_local e1, rM_local e2, h⟩
  · obtain ⟨hb, -, w, M, len, f, f', w1, w2, w3, w4, w5, w6, w7⟩ := q.2.2.2.2.2.2.2 rfl
    obtain ⟨p1, p2, p3⟩ := IVp_rP q rfl
    exact ⟨_, s, t, x_localQ w2 p2.2.2 p1.2.2.1.2 (fun u hu => (p3 u hu).1), m_localQ w3 p1.2.2.1.2 (fun u hu => ⟨(p3 u hu).2, (p3 u hu).1.2⟩), h⟩
theorem al_step (h : IV0 s t) : ∃ (v : Int32) (s' t' : qS), qev en (d + 200) 215 [.ref 0, .int a1, .int a2] s = some (some (.int v), s') ∧ qev en (d + 200) 342 [.ref 151, .int a1, .int a2] t = some (some (.int v), t') ∧ IV0 s' t' := by
  rcases IV0_g h with ⟨e1, e2⟩ | ⟨b, o, e, x, y, P, P2, V, U, cl, nc, nl, nt, m, N, th, K, bl, q⟩
  · exact ⟨-1, s, t, rX_step e1, rM_step e2, h⟩
  · obtain ⟨hb, -, w, M, len, f, f', w1, w2, w3, w4, w5, w6, w7⟩ := q.2.2.2.2.2.2.2 rfl
    exact ⟨_, s, t, x_stepQ w2 w1.2, m_stepQ w3 w5 w1.2, h⟩
theorem al_ordered (h : IV0 s t) : ∃ (v : Int32) (s' t' : qS), qev en (d + 200) 219 [.ref 0, .int a1] s = some (some (.int v), s') ∧ qev en (d + 200) 354 [.ref 151, .int a1] t = some (some (.int v), t') ∧ IV0 s' t' := by
  obtain ⟨b, o, e, x, g, y, P, P2, V, U, cl, nc, nl, nt, m, N, th, K, bl, q⟩ := id h
  obtain ⟨M, h1, h2⟩ := q.1.2.2.2.2
  exact ⟨_, s, t, x_ordered h1, m_ordered h2, h⟩
theorem al_ready (h : IV0 s t) : ∃ (v : Int32) (s' t' : qS), qev en (d + 200) 208 [.ref 0, .int a1] s = some (some (.int v), s') ∧ qev en (d + 200) 333 [.ref 151, .int a1] t = some (some (.int v), t') ∧ IV0 s' t' := by
  rcases IV0_g h with ⟨e1, e2⟩ | ⟨b, o, e, x, y, P, P2, V, U, cl, nc, nl, nt, m, N, th, K, bl, q⟩
  · exact ⟨-1, s, t, rX_ready e1, rM_ready e2, h⟩
  · obtain ⟨hb, -, w, M, len, f, f', w1, w2, w3, w4, w5, w6, w7⟩ := q.2.2.2.2.2.2.2 rfl
    obtain ⟨p1, p2, p3⟩ := IVp_rP q rfl
    obtain ⟨s', r1, r2, r3⟩ := x_readyQ (en := en) (d := d + 193) (u := a1) w2 p1 w4 w1.1
    obtain ⟨t', k1, k2, k3⟩ := m_readyQ (en := en) (d := d + 191) (u := a1) w3 p1 w4 w1.1
    exact ⟨_, s', t', r1, k1, IVp_rt q r2 k2 (r2.2.2.1 4 (by decide)) ⟨w, M, len, f, f', w1, r3, k3, w4, w5, w6, fun l hl hk => by rw [k2.2.2.1 180 (by decide) (by decide)]; exact w7 l hl hk⟩⟩
theorem al_seen (h : IV0 s t) : ∃ (v : Int32) (s' t' : qS), qev en (d + 200) 213 [.ref 0, .int a1, .int a2] s = some (some (.int v), s') ∧ qev en (d + 200) 340 [.ref 151, .int a1, .int a2] t = some (some (.int v), t') ∧ IV0 s' t' := by
  rcases IV0_g h with ⟨e1, e2⟩ | ⟨b, o, e, x, y, P, P2, V, U, cl, nc, nl, nt, m, N, th, K, bl, q⟩
  · exact ⟨-1000, s, t, rX_seen e1, rM_seen e2, h⟩
  · obtain ⟨hb, -, w, M, len, f, f', w1, w2, w3, w4, w5, w6, w7⟩ := q.2.2.2.2.2.2.2 rfl
    obtain ⟨p1, p2, p3⟩ := IVp_rP q rfl
    obtain ⟨s', r1, r2, r3⟩ := x_seenQ (en := en) (d := d + 193) (u := a1) (v := a2) w2 p2.2.2 p1 w4 w1.1
    obtain ⟨t', k1, k2, k3⟩ := m_seenQ (en := en) (d := d + 192) (u := a1) (v := a2) w3 p1 w4 w1.1
    exact ⟨_, s', t', r1, k1, IVp_rt q r2 k2 (r2.2.2.1 4 (by decide)) ⟨w, M, len, f, f', w1, r3, k3, w4, w5, w6, fun l hl hk => by rw [k2.2.2.1 180 (by decide) (by decide)]; exact w7 l hl hk⟩⟩
theorem al_turn (h : IV0 s t) : ∃ (v : Int32) (s' t' : qS), qev en (d + 200) 209 [.ref 0, .int a1, .int a2] s = some (some (.int v), s') ∧ qev en (d + 200) 335 [.ref 151, .int a1, .int a2] t = some (some (.int v), t') ∧ IV0 s' t' := by
  rcases IV0_g h with ⟨e1, e2⟩ | ⟨b, o, e, x, y, P, P2, V, U, cl, nc, nl, nt, m, N, th, K, bl, q⟩
  · exact ⟨-1, s, t, rX_turn e1, rM_turn e2, h⟩
  · obtain ⟨hb, -, w, M, len, f, f', w1, w2, w3, w4, w5, w6, w7⟩ := q.2.2.2.2.2.2.2 rfl
    obtain ⟨p1, p2, p3⟩ := IVp_rP q rfl
    obtain ⟨v, s', r1, r2⟩ := x_turn (en := en) (d := d + 192) (u := a1) (v := a2) w2 p1 w4 w1.1 w1.2
    obtain ⟨v', t', k1, k2⟩ := m_turn (en := en) (d := d + 191) (u := a1) (v := a2) w3 p1 w4 w1.1 w1.2
    have fx : frX s s' := r2.1
    have fm : frM t t' := k2.1
    have wd : WDv t' 3 N (if y = true then P2 else P) := fun l hl hk => by rw [fm.2.2.1 180 (by decide) (by decide)]; exact w7 l hl hk
    obtain ⟨ev, hh⟩ := turn_alike2 r2 k2 p1 w4 w1.1 w5 w6
    refine ⟨v, s', t', r1, by rw [ev]; exact k1, IVp_rt q fx fm (fx.2.2.1 4 (by decide)) ?_⟩
    rcases hh with ⟨h1, h2⟩ | ⟨hl, N', f2, g2, h1, h2, h3, h4, h5⟩
    · exact ⟨w, M, len, f, f', w1, h1, h2, w4, w5, w6, wd⟩
    · exact ⟨w, N', len + 1, f2, g2, ⟨w1.1, by omega⟩, h2, h3, h1, h4, h5, wd⟩
end TOPE
