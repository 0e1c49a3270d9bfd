/-! THE TOP: outcomes, schedules, rings, chances. -/
section TOPC
variable {en : pN} {d d' k i n N j r v u m nc nl nt key a w p len : Nat} {V cl th K : Nat → Nat} {U : Nat → Nat → Nat} {bl : Nat → List Nat} {go : Nat → Bool} {s s' t t' τ τ' σ σ' : qS} {e x g y b o fw : Bool} {z a1 a2 a3 : Int32} {P P2 : Nat → fI} {X : xT} {F M : fI} {f f' : Nat → fI}
/-- the values that cells begin with -/
theorem IVp_in (h : IVp s t b o e x g y P P2 V U cl nc nl nt m N th K bl) (hb : b = true) : (∀ c, c < nc → inR (P 4 c)) ∧ (o = true → ∀ c, c < nc → inR (P2 4 c)) := by
  obtain ⟨-, -, -, h15, h16, -, -, -⟩ := h
  have hP := h15 hb
  have hc8 : nc ≤ 8 := hP.1.1.1.1
  have h8 := hP.1.2.2.2.2.2.1
  have e4 : s.1 15 = P 4 := hP.2.2.2.1.1 4 (by decide)
  have key : ∀ c, c < nc → t.1 154 c = s.1 15 c ∧ inR (s.1 15 c) := fun c hc => by
    rcases h8 c (by omega) with ⟨-, q2, q3, -⟩ | ⟨q1, -⟩
    · exact ⟨q2, q3⟩
    · omega
  refine ⟨fun c hc => by rw [← e4]; exact (key c hc).2, fun ho c hc => ?_⟩
  obtain ⟨-, ⟨bl', go, g2⟩, g3, -⟩ := h16 ho
  have q1 : t.1 154 c = s.1 40 c := (g2.1.2.2.1 c hc).1
  have q2 : s.1 40 = P2 4 := g3.1 4 (by decide)
  rw [← q2, ← q1, (key c hc).1]
  exact (key c hc).2
theorem IVp_inx (h : IVp s t b o e x g y P P2 V U cl nc nl nt m N th K bl) (he : e = true) : ∀ c, c < nc → inR ((if x = true then P2 else P) 4 c) := by
  obtain ⟨hb, hx, -⟩ := h.2.2.2.2.2.2.1 he
  obtain ⟨q1, q2⟩ := IVp_in h hb
  cases x with
  | true => rw [if_pos rfl]; exact q2 (hx rfl)
  | false => rw [if_neg (by decide)]; exact q1
theorem IVp_cl (h : IVp s t b o e x g y P P2 V U cl nc nl nt m N th K bl) (he : e = true) : (∀ u, u < nt → s.1 14 u = nI (lct (if x = true then P2 else P) u)) ∧ t.1 151 18 = nI nt ∧ ∀ u, u < nt → t.1 159 u = nI (lct (if x = true then P2 else P) u) := by
  obtain ⟨-, -, -, h15, h16, -, h18, -⟩ := h
  obtain ⟨hb, hx, -⟩ := h18 he
  have hP := h15 hb
  have hnt : nt ≤ 4 := hP.1.1.1.2.2
  have hL := hP.1.1.2.2.2.2.2
  have e3 : s.1 14 = P 3 := hP.2.2.2.1.1 3 (by decide)
  have key : ∀ u, u < nt → lct (if x = true then P2 else P) u = cl u := fun u hu => by
    obtain ⟨l1, -, l3, -⟩ := hL u (by omega)
    cases x with
    | false =>
      rw [if_neg (by decide)]
      show clp (P 3 u) = _
      rw [← e3, l1]
      exact n_clp (by omega)
    | true =>
      rw [if_pos rfl]
      obtain ⟨-, ⟨bl', go, g2⟩, g3, -⟩ := h16 (hx rfl)
      have q1 : s.1 39 u = nI (cl u) := (g2.1.2.1 u hu).1
      have q2 : s.1 39 = P2 3 := g3.1 3 (by decide)
      show clp (P2 3 u) = _
      rw [← q2, q1]
      exact n_clp (by omega)
  refine ⟨fun u hu => ?_, hP.1.1.2.2.1.2.2, fun u hu => ?_⟩
  · rw [key u hu]; exact (hL u (by omega)).1
  · rw [key u hu]; exact (hL u (by omega)).2.1.1 hu
theorem al_outcome (h : IV0 s t) : ∃ (v : Int32) (s' t' : qS), qev en (d + 200) 222 [.ref 0, .int a1, .int a2] s = some (some (.int v), s') ∧ qev en (d + 200) 370 [.ref 151, .int a1, .int a2] t = some (some (.int v), t') ∧ IV0 s' t' := by
  rcases IV0_e h with ⟨e1, e2⟩ | ⟨b, o, x, g, y, P, P2, V, U, cl, nc, nl, nt, m, N, th, K, bl, q⟩
  · exact ⟨-1, s, t, rX_outcome e1, rM_outcome e2, h⟩
  · obtain ⟨hb, -, w, fw, X, w1, w2, w3, w4, w5, w6, w7, w8⟩ := q.2.2.2.2.2.2.1 rfl
    have hP := IVp_P q rfl
    have pq : ((if x = true then 36 else 11) = 11 ∨ (if x = true then 36 else 11) = 36) := by cases x <;> simp
    by_cases q2 : a2 = 2
    · rw [q2]
      obtain ⟨v, s', t', r1, r2, f1, f2, f3, f4⟩ := switches_alike (en := en) (d := d + 194) (d' := d + 198) (a := a1) hP w4 w5 w2 w3 w7 w8
      refine ⟨v, s', t', r1, r2, (IVp_e q (fun c c1 c2 c3 c4 c5 c6 c7 => f1.1 c c3 (by omega) (by omega) (by omega)) (f1.2.1 17 (by decide) (by decide) (by decide)) ⟨by rw [f1.2.2], fun c _ => by rw [f1.2.2]⟩ (fun c c1 c2 _ => f2.1 c c1 (by omega) (by omega) (by omega)) (fun j j1 _ _ => f2.2.1 j j1) (fun c _ => by rw [f2.2.2]) (fun _ => ⟨w, fw, X, w1, w2.fl ⟨fun c hc => f1.1 c (by omega) (by omega) (by omega) (by omega), fun j hj => f1.2.1 j (by omega) (by omega) (by omega), by rw [f1.2.2], by rw [f1.2.2]⟩, w3.fl (MB_fr w3.flat.1.1 (fun c hc => f2.1 c (by omega) (by omega) (by omega) (by omega)) (fun j _ => by rw [f2.1 161 (by decide) (by decide) (by decide) (by decide), f2.1 162 (by decide) (by decide) (by decide) (by decide)]; exact ⟨rfl, rfl⟩)) ⟨fun c c1 c2 => f2.1 c (by omega) (by omega) (by omega) (by omega), fun j hj => f2.2.1 j (by omega)⟩, w4, w5, ⟨w6.1, xtI_eq w6.2 (f2.1 175 (by decide) (by decide) (by decide) (by decide)) (by rw [f2.2.2])⟩, f3, f4⟩)).to⟩
    · obtain ⟨v, s', r1, r2, f1, f2, f3⟩ := outcome_alike (en := en) (d := d + 197) (d' := d + 198) (a := a1) hP w4 w2 w3 q2
      refine ⟨v, s', t, r1, r2, (IVp_e q (fun c _ _ _ _ c5 _ _ => f2 c c5) (by rw [f2 70 (by decide)]) ⟨by rw [f3], fun c _ => by rw [f3]⟩ (fun _ _ _ _ => rfl) (fun _ _ _ _ => rfl) (fun _ _ => rfl) (fun _ => ⟨w, fw, X, w1, f1, w3, w4, w5, w6, ?_, w8⟩)).to⟩
      unfold swx
      rw [f2 70 (by decide), f2 96 (by decide)]
      exact w7
theorem al_outcomeCell (h : IV0 s t) : ∃ (v : Int32) (s' t' : qS), qev en (d + 200) 223 [.ref 0, .int a1, .int a2] s = some (some (.int v), s') ∧ qev en (d + 200) 371 [.ref 151, .int a1, .int a2] t = some (some (.int v), t') ∧ IV0 s' t' := by
  rcases IV0_e h with ⟨e1, e2⟩ | ⟨b, o, x, g, y, P, P2, V, U, cl, nc, nl, nt, m, N, th, K, bl, q⟩
  · exact ⟨-1000, s, t, rX_outcomeCell e1, rM_outcomeCell e2, h⟩
  · obtain ⟨hb, -, w, fw, X, w1, w2, w3, w4, w5, w6, w7, w8⟩ := q.2.2.2.2.2.2.1 rfl
    obtain ⟨v, s', r1, r2, f1, f2, f3⟩ := outcomeCell_alike (en := en) (d := d + 197) (d' := d + 197) (a := a1) (q := a2) (IVp_P q rfl) w1 w4 w2 w3 (IVp_11 q hb).1
    refine ⟨v, s', t, r1, r2, (IVp_e q (fun c _ _ _ _ c5 _ _ => f2 c c5) (by rw [f2 70 (by decide)]) ⟨by rw [f3], fun c _ => by rw [f3]⟩ (fun _ _ _ _ => rfl) (fun _ _ _ _ => rfl) (fun _ _ => rfl) (fun _ => ⟨w, fw, X, w1, f1, w3, w4, w5, w6, ?_, w8⟩)).to⟩
    unfold swx
    rw [f2 70 (by decide), f2 96 (by decide)]
    exact w7
theorem al_outcomeLocal (h : IV0 s t) : ∃ (v : Int32) (s' t' : qS), qev en (d + 200) 224 [.ref 0, .int a1, .int a2, .int a3] s = some (some (.int v), s') ∧ qev en (d + 200) 372 [.ref 151, .int a1, .int a2, .int a3] t = some (some (.int v), t') ∧ IV0 s' t' := by
  rcases IV0_e h with ⟨e1, e2⟩ | ⟨b, o, x, g, y, P, P2, V, U, cl, nc, nl, nt, m, N, th, K, bl, q⟩
  · exact ⟨-1000, s, t, rX_outcomeLocal e1, rM_outcomeLocal e2, h⟩
  · obtain ⟨hb, -, w, fw, X, w1, w2, w3, w4, w5, w6, w7, w8⟩ := q.2.2.2.2.2.2.1 rfl
    obtain ⟨l1, l2, l3⟩ := IVp_cl q rfl
    obtain ⟨v, s', r1, r2, f1, f2, f3⟩ := outcomeLocal_alike (en := en) (d := d + 196) (d' := d + 197) (a := a1) (q := a2) (z := a3) (IVp_P q rfl) w1 w4 w2 w3 (IVp_11 q hb).2.2 l1 l2 l3
    refine ⟨v, s', t, r1, r2, (IVp_e q (fun c _ _ _ _ c5 _ _ => f2 c c5) (by rw [f2 70 (by decide)]) ⟨by rw [f3], fun c _ => by rw [f3]⟩ (fun _ _ _ _ => rfl) (fun _ _ _ _ => rfl) (fun _ _ => rfl) (fun _ => ⟨w, fw, X, w1, f1, w3, w4, w5, w6, ?_, w8⟩)).to⟩
    unfold swx
    rw [f2 70 (by decide), f2 96 (by decide)]
    exact w7
theorem al_schedule (h : IV0 s t) : ∃ (v : Int32) (s' t' : qS), qev en (d + 200) 225 [.ref 0, .int a1, .int a2] s = some (some (.int v), s') ∧ qev en (d + 200) 376 [.ref 151, .int a1, .int a2] t = some (some (.int v), t') ∧ IV0 s' t' := by
  rcases IV0_e h with ⟨e1, e2⟩ | ⟨b, o, x, g, y, P, P2, V, U, cl, nc, nl, nt, m, N, th, K, bl, q⟩
  · exact ⟨-1, s, t, rX_schedule e1, rM_schedule e2, h⟩
  · obtain ⟨hb, -, w, fw, X, w1, w2, w3, w4, w5, w6, w7, w8⟩ := q.2.2.2.2.2.2.1 rfl
    obtain ⟨v, t', r1, r2, f1, f2, f3, f4⟩ := schedule_alike (en := en) (d := d + 197) (d' := d + 198) (a := a1) (q := a2) w4 w2 w3
    refine ⟨v, s, t', r1, r2, (IVp_e q (fun _ _ _ _ _ _ _ _ => rfl) rfl ⟨rfl, fun _ _ => rfl⟩ (fun c c1 c2 _ => f2 c c1 (by omega)) (fun j _ j2 _ => f3 j j2) (fun c _ => by rw [f4]) (fun _ => ⟨w, fw, X, w1, w2, f1, w4, w5, ⟨w6.1, xtI_eq w6.2 (f2 175 (by decide) (by decide)) (by rw [f4])⟩, w7, ?_⟩)).to⟩
    unfold swm
    rw [f3 121 (by decide), f2 229 (by decide) (by decide)]
    exact w8
theorem al_ring (h : IV0 s t) : ∃ (v : Int32) (s' t' : qS), qev en (d + 200) 230 [.ref 0, .int a1] s = some (some (.int v), s') ∧ qev en (d + 200) 388 [.ref 151, .int a1] t = some (some (.int v), t') ∧ IV0 s' t' := by
  rcases IV0_e h with ⟨e1, e2⟩ | ⟨b, o, x, g, y, P, P2, V, U, cl, nc, nl, nt, m, N, th, K, bl, q⟩
  · exact ⟨-1, s, t, rX_ring e1, rM_ring e2, h⟩
  · obtain ⟨hb, -, w, fw, X, w1, w2, w3, w4, w5, w6, w7, w8⟩ := q.2.2.2.2.2.2.1 rfl
    have pq : ((if x = true then 36 else 11) = 11 ∨ (if x = true then 36 else 11) = 36) := by cases x <;> simp
    obtain ⟨v, s', t', r1, r2, ⟨f1, f2⟩, g1, g2, g3⟩ := ring_alike (en := en) (d := d + 198) (d' := d + 196) (a := a1) (IVp_P q rfl) w4 w1 w2 w3 w6.1
    refine ⟨v, s', t', r1, r2, (IVp_e q (fun c _ _ _ _ _ c6 _ => f1 c c6) (by rw [f1 70 (by decide)]) ⟨by rw [f2], fun c _ => by rw [f2]⟩ (fun c c1 _ c3 => g1 c c1 (by omega)) (fun j _ _ j3 => g2 j (by omega) (by omega) (by omega)) (fun c _ => by rw [g3]) (fun _ => ⟨w, fw, X, w1, w2.fl ⟨fun c hc => f1 c (by omega), fun j _ => by rw [f1 70 (by decide)], by rw [f2], by rw [f2]⟩, w3.fl (MB_fr w3.flat.1.1 (fun c hc => g1 c (by omega) (by omega)) (fun j _ => by rw [g1 161 (by decide) (by decide), g1 162 (by decide) (by decide)]; exact ⟨rfl, rfl⟩)) ⟨fun c c1 c2 => g1 c (by omega) (by omega), fun j hj => g2 j (by omega) (by omega) (by omega)⟩, w4, w5, ⟨w6.1, xtI_eq w6.2 (g1 175 (by decide) (by decide)) (by rw [g3])⟩, ?_, ?_⟩)).to⟩
    · unfold swx
      rw [f1 70 (by decide), f1 96 (by decide)]
      exact w7
    · unfold swm
      rw [g2 121 (by decide) (by decide) (by decide), g1 229 (by decide) (by decide)]
      exact w8
theorem al_chances (h : IV0 s t) : ∃ (v : Int32) (s' t' : qS), qev en (d + 200) 227 [.ref 0, .int a1, .int a2, .int a3] s = some (some (.int v), s') ∧ qev en (d + 200) 379 [.ref 151, .int a1, .int a2, .int a3] t = some (some (.int v), t') ∧ IV0 s' t' := by
  rcases IV0_e h with ⟨e1, e2⟩ | ⟨b, o, x, g, y, P, P2, V, U, cl, nc, nl, nt, m, N, th, K, bl, q⟩
  · exact ⟨-1, s, t, rX_chances e1, rM_chances e2, h⟩
  · obtain ⟨hb, -, w, fw, X, w1, w2, w3, w4, w5, w6, w7, w8⟩ := q.2.2.2.2.2.2.1 rfl
    obtain ⟨v, s', t', r1, r2, f1, g1, f2, g2⟩ := chances_alike (en := en) (d := d + 191) (d' := d + 191) (a := a1) (b := a2) (c := a3) (IVp_P q rfl) w4 w1 (IVp_inx q rfl) w2 w3
    refine ⟨v, s', t', r1, r2, (IVp_e q (fun c c1 c2 c3 c4 c5 c6 c7 => f1.1 c c1 c2 c4 c5 (by omega)) (by rw [f1.1 70 (by decide) (by decide) (by decide) (by decide) (by decide)]) ⟨f1.2.2.2, f1.2.2.1⟩ (fun c c1 c2 c3 => g1.1 c c1 (by omega) (by omega) (by omega) (by omega) (by omega) (by omega)) (fun j _ _ j3 => g1.2.1 j (by omega)) g1.2.2.1 (fun _ => ⟨w, fw, X, w1, f2, g2, w4, w5, ⟨w6.1, xtI_eq w6.2 (g1.1 175 (by decide) (by decide) (by decide) (by decide) (by decide) (by decide) (by decide)) (g1.2.2.1 180 (by decide))⟩, ?_, ?_⟩)).to⟩
    · unfold swx
      rw [f1.1 70 (by decide) (by decide) (by decide) (by decide) (by decide), f1.1 96 (by decide) (by decide) (by decide) (by decide) (by decide)]
      exact w7
    · unfold swm
      rw [g1.2.1 121 (by decide), g1.1 229 (by decide) (by decide) (by decide) (by decide) (by decide) (by decide) (by decide)]
      exact w8
end TOPC
