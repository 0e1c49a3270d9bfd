/-! THE TOP: questions on what is explored. -/
section TOPB
variable {en : pN} {d d' k i n N j r v u m nc nl nt key a w p len : Nat} {V cl th K : Nat → Nat} {U : Nat → Nat → Nat} {bl : Nat → List Nat} {go : Nat → Bool} {s s' t t' τ τ' σ σ' : qS} {e x g y b o fw : Bool} {z a1 a2 a3 : Int32} {P P2 : Nat → fI} {X : xT} {F M : fI} {f f' : Nat → fI}
theorem rwI_fr (h : rwI s t P2 cl nc nl nt N th K) (f : rfX s s') (q : rfM t t') : rwI s' t' P2 cl nc nl nt N th K := by
  obtain ⟨⟨bl', go, g2⟩, ⟨g3, g4, g5, g6⟩, g7, g8⟩ := h
  have hN : N ≤ 100 := g2.1.1.2.2.2.2
  have hnt : nt ≤ 4 := g2.1.1.2.2.1.2
  exact ⟨⟨bl', go, rwF_fr g2 f q⟩, ⟨fun a ha => (f (36 + a) (by omega)).trans (g3 a ha), g4, (f 8 (by omega)).trans g5, (f 9 (by omega)).trans g6⟩, g7, MB_v g8 q.1 q.2.1 (fun c c1 c2 i hi => q.2.2.1 c c1 c2 _ (by omega) (by omega)) (fun u hu => q.2.2.2.1 _ (by omega) (by omega))⟩
/-- what is explored stays, but for its telling -/
theorem IVp_e (h : IVp s t b o e x g y P P2 V U cl nc nl nt m N th K bl) (f1 : ∀ c, c ≠ 7 → c ≠ 10 → c ≠ 70 → c ≠ 71 → c ≠ 72 → c ≠ 82 → (c < 94 ∨ 98 < c) → s'.1 c = s.1 c) (f3 : s'.1 70 17 = s.1 70 17) (f2 : s'.2.2 = s.2.2 ∧ ∀ c, c ≠ 94 → s'.2.1 c = s.2.1 c) (g1 : ∀ c, c ≠ 151 → (c < 227 ∨ 232 < c) → (c < 187 ∨ 190 < c) → t'.1 c = t.1 c) (g2 : ∀ j, j ≠ 121 → j ≠ 128 → (j < 58 ∨ 73 < j ∨ j = 61) → t'.1 151 j = t.1 151 j) (g3 : ∀ c, c ≠ 151 → t'.2.1 c = t.2.1 c) (hx : e = true → xpI (if x = true then P2 else P) (if x = true then 36 else 11) s' t' nc nl nt N) : IVp s' t' b o e x g y P P2 V U cl nc nl nt m N th K bl := by
  obtain ⟨⟨⟨n, B, h1, h2⟩, ⟨h3, h4⟩, h5, ⟨⟨h6, h7⟩, ⟨h8, h9⟩, h10⟩, ⟨Mt, h11, h12⟩⟩, h13, h14, h15, h16, h17, h18, h19⟩ := h
  have sI : ∀ c, (c < 70 ∨ 98 < c) ∧ c ≠ 7 ∧ c ≠ 10 → s'.1 c = s.1 c := fun c hc => f1 c (by omega) (by omega) (by omega) (by omega) (by omega) (by omega) (by omega)
  have sJ : ∀ c, c ≠ 94 → s'.2.1 c = s.2.1 c := f2.2
  have tI : ∀ c, (c < 227 ∨ 232 < c) → c ≠ 151 → (c < 187 ∨ 190 < c) → t'.1 c = t.1 c := fun c c1 c2 c3 => g1 c c2 c1 c3
  have mbv : ∀ (v : Nat) (Q : Nat → fI), MB t v Q nc nl nt N → MB t' v Q nc nl nt N := fun v Q hB => MB_v hB (fun c hc => tI c (by omega) (by omega) (by omega)) (fun j _ => by rw [tI 161 (by decide) (by decide) (by decide), tI 162 (by decide) (by decide) (by decide)]; exact ⟨rfl, rfl⟩) (fun c c1 c2 _ _ => by rw [tI c (by omega) (by omega) (by omega)]) (fun _ _ => by rw [tI 181 (by decide) (by decide) (by decide)])
  have m5 : ∀ j, j < 58 → t'.1 151 j = t.1 151 j := fun j hj => g2 j (by omega) (by omega) (by omega)
  have m6 : ∀ j, 74 ≤ j → j ≠ 121 → j ≠ 128 → t'.1 151 j = t.1 151 j := fun j hj j1 j2 => g2 j j1 j2 (by omega)
  have pq : ∀ z : Bool, ((if z = true then 36 else 11) = 11 ∨ (if z = true then 36 else 11) = 36) := fun z => by cases z <;> simp
  refine ⟨⟨⟨n, B, ?_, ?_⟩, ⟨?_, ?_⟩, fun a k ha hk => ?_, ⟨⟨?_, ?_⟩, ⟨?_, ?_⟩, ?_⟩, ⟨Mt, ?_, ?_⟩⟩, ?_, ?_, fun hb => ?_, fun ho => ?_, ?_, fun he => ?_, fun hg => ?_⟩
  · unfold TX; rw [sI 1 (by decide), sI 2 (by decide)]; exact h1
  · unfold MX; rw [m5 1 (by decide), tI 152 (by decide) (by decide) (by decide)]; exact h2
  · rw [sJ 3 (by decide)]; exact h3
  · rw [sJ 66 (by decide)]; exact h4
  · rw [f2.1] at hk ⊢; exact h5 a k ha hk
  · rw [sI 65 (by decide), m5 9 (by decide)]; exact h6
  · rw [sI 65 (by decide), m5 10 (by decide)]; exact h7
  · rw [sI 0 (by decide), m6 131 (by decide) (by decide) (by decide)]; exact h8
  · rw [sI 0 (by decide), m6 150 (by decide) (by decide) (by decide)]; exact h9
  · rw [sI 103 (by decide)]; exact h10
  · unfold tdI; rw [sI 125 (by decide), sI 150 (by decide)]; exact h11
  · unfold tmI; rw [m6 96 (by decide) (by decide) (by decide), tI 208 (by decide) (by decide) (by decide)]; exact h12
  · rw [sI 0 (by decide), m5 11 (by decide)]; exact h13
  · rw [sI 0 (by decide), m6 147 (by decide) (by decide) (by decide)]; exact h14
  · exact PGx_fr (h15 hb) ⟨fun c _ c2 => sI c (by omega), fun j _ => by rw [sI 8 (by decide), sI 9 (by decide)]; exact ⟨rfl, rfl⟩, sI 68 (by decide), fun c hc => sJ c (by omega)⟩ ⟨fun c hc => tI c (by omega) (by omega) (by omega), fun j _ => by rw [tI 161 (by decide) (by decide) (by decide), tI 162 (by decide) (by decide) (by decide)]; exact ⟨rfl, rfl⟩, fun c c1 c2 j _ => by rw [tI c (by omega) (by omega) (by omega)], fun j _ => by rw [tI 181 (by decide) (by decide) (by decide)], fun j hj => m5 j (by omega), fun c hc => g3 c (by omega), fun j _ => by rw [g3 180 (by decide)]⟩
  · obtain ⟨q1, q2⟩ := h16 ho
    exact ⟨q1, rwI_fr q2 (fun c hc => sI c (by omega)) ⟨fun c hc => tI c (by omega) (by omega) (by omega), fun j _ => by rw [tI 161 (by decide) (by decide) (by decide), tI 162 (by decide) (by decide) (by decide)]; exact ⟨rfl, rfl⟩, fun c c1 c2 j _ _ => by rw [tI c (by omega) (by omega) (by omega)], fun j _ _ => by rw [tI 181 (by decide) (by decide) (by decide)], m5 32 (by decide), fun j _ _ => by rw [g3 180 (by decide)]⟩⟩
  · unfold flE
    rw [f3, sI 0 (by decide), sI 111 (by decide), m6 98 (by decide) (by decide) (by decide), m6 148 (by decide) (by decide) (by decide), m6 74 (by decide) (by decide) (by decide), m6 149 (by decide) (by decide) (by decide)]
    exact h17
  · exact ⟨(h18 he).1, (h18 he).2.1, hx he⟩
  · obtain ⟨q1, q2, w, M, len, f, f', w1, w2, w3, w4, w5, w6, w7⟩ := h19 hg
    have hp := pq y
    refine ⟨q1, q2, w, M, len, f, f', w1, RXi.flw w2 (fun c hc => sI c (by omega)) (fun j _ => by rw [sI 8 (by decide), sI 9 (by decide)]; exact ⟨rfl, rfl⟩) (by rw [sI 112 (by decide)]) ⟨by rw [sI 111 (by decide)], by rw [sI 111 (by decide)]⟩ (sJ 124 (by decide)) (by rw [f2.1]), RMi.flw w3 (mbv 3 _ w3.1) (fun c c1 c2 => tI c (by omega) (by omega) (by omega)) (fun j hj => g2 j (by omega) (by omega) (by omega)) (g3 199 (by decide)) (fun j _ => by rw [g3 180 (by decide)]), w4, w5, w6, fun l hl hk => ?_⟩
    rw [g3 180 (by decide)]
    exact w7 l hl hk
/-- the programs of both, whichever is explored -/
theorem IVp_P (h : IVp s t b o e x g y P P2 V U cl nc nl nt m N th K bl) (he : e = true) : PV (if x = true then P2 else P) nc nl nt N := by
  obtain ⟨-, -, -, h15, h16, -, h18, -⟩ := h
  obtain ⟨hb, hx, -⟩ := h18 he
  cases x with
  | true =>
    rw [if_pos rfl]
    exact (h16 (hx rfl)).2.2.2.1
  | false =>
    rw [if_neg (by decide)]
    exact (h15 hb).2.2.2.2.1
theorem IVp_11 (h : IVp s t b o e x g y P P2 V U cl nc nl nt m N th K bl) (hb : b = true) : s.1 11 9 = nI nc ∧ s.1 11 10 = nI nl ∧ s.1 11 11 = nI nt := (h.2.2.2.1 hb).1.1.2.1
/-- nothing explored, or something -/
theorem IV0_e (h : IV0 s t) : (s.1 70 17 = 0 ∧ t.1 151 98 = 0) ∨ ∃ (b o x g y : Bool) (P P2 : Nat → fI) (V : Nat → Nat) (U : Nat → Nat → Nat) (cl : Nat → Nat) (nc nl nt m N : Nat) (th K : Nat → Nat) (bl : Nat → List Nat), IVp s t b o true x g y P P2 V U cl nc nl nt m N th K bl := by
  obtain ⟨b, o, e, x, g, y, P, P2, V, U, cl, nc, nl, nt, m, N, th, K, bl, h⟩ := h
  cases e with
  | false => exact Or.inl ⟨h.2.2.2.2.2.1.1.1, h.2.2.2.2.2.1.1.2⟩
  | true => exact Or.inr ⟨b, o, x, g, y, P, P2, V, U, cl, nc, nl, nt, m, N, th, K, bl, h⟩
theorem IVp.to (h : IVp s t b o e x g y P P2 V U cl nc nl nt m N th K bl) : IV0 s t := ⟨b, o, e, x, g, y, P, P2, V, U, cl, nc, nl, nt, m, N, th, K, bl, h⟩
theorem al_where (h : IV0 s t) : ∃ (v : Int32) (s' t' : qS), qev en (d + 200) 233 [.ref 0] s = some (some (.int v), s') ∧ qev en (d + 200) 393 [.ref 151] t = some (some (.int v), t') ∧ IV0 s' t' := by
  obtain ⟨b, o, e, x, g, y, P, P2, V, U, cl, nc, nl, nt, m, N, th, K, bl, q⟩ := id h
  exact ⟨t.1 151 131, s, t, by rw [← q.1.2.2.2.1.2.1.1]; exact c_whereX, c_whereM, h⟩
theorem al_gained (h : IV0 s t) : ∃ (v : Int32) (s' t' : qS), qev en (d + 200) 237 [.ref 0] s = some (some (.int v), s') ∧ qev en (d + 200) 407 [.ref 151] t = some (some (.int v), t') ∧ IV0 s' t' := by
  obtain ⟨b, o, e, x, g, y, P, P2, V, U, cl, nc, nl, nt, m, N, th, K, bl, q⟩ := id h
  exact ⟨t.1 151 150, s, t, by rw [← q.1.2.2.2.1.2.1.2]; exact c_gainedX, c_gainedM, h⟩
theorem al_explored (h : IV0 s t) : ∃ (v : Int32) (s' t' : qS), qev en (d + 200) 221 [.ref 0, .int a1] s = some (some (.int v), s') ∧ qev en (d + 200) 367 [.ref 151, .int a1] t = some (some (.int v), t') ∧ IV0 s' t' := by
  rcases IV0_e h with ⟨e1, e2⟩ | ⟨b, o, x, g, y, P, P2, V, U, cl, nc, nl, nt, m, N, th, K, bl, q⟩
  · exact ⟨-1, s, t, rX_explored e1, rM_explored e2, h⟩
  · obtain ⟨-, -, w, fw, X, w1, w2, w3, w4, w5, w6, w7, w8⟩ := q.2.2.2.2.2.2.1 rfl
    obtain ⟨v, r1, r2⟩ := explored_alike (en := en) (d := d + 198) (a := a1) w2 w3
    exact ⟨v, s, t, qev_up 1 (d + 199) (by omega) r1, r2, h⟩
theorem al_guard (h : IV0 s t) : ∃ (v : Int32) (s' t' : qS), qev en (d + 200) 229 [.ref 0, .int a1] s = some (some (.int v), s') ∧ qev en (d + 200) 382 [.ref 151, .int a1] t = some (some (.int v), t') ∧ IV0 s' t' := by
  rcases IV0_e h with ⟨e1, e2⟩ | ⟨b, o, x, g, y, P, P2, V, U, cl, nc, nl, nt, m, N, th, K, bl, q⟩
  · exact ⟨-1, s, t, rX_guard e1, rM_guard e2, h⟩
  · obtain ⟨hb, -, w, fw, X, w1, w2, w3, w4, w5, w6, w7, w8⟩ := q.2.2.2.2.2.2.1 rfl
    obtain ⟨v, r1, r2⟩ := guard_alike (en := en) (d := d + 198) (a := a1) w2 w3 (IVp_P q rfl) (IVp_11 q hb).1
    exact ⟨v, s, t, r1, qev_up 1 (d + 199) (by omega) r2, h⟩
theorem al_order (h : IV0 s t) : ∃ (v : Int32) (s' t' : qS), qev en (d + 200) 231 [.ref 0, .int a1, .int a2] s = some (some (.int v), s') ∧ qev en (d + 200) 389 [.ref 151, .int a1, .int a2] t = some (some (.int v), t') ∧ IV0 s' t' := by
  rcases IV0_e h with ⟨e1, e2⟩ | ⟨b, o, x, g, y, P, P2, V, U, cl, nc, nl, nt, m, N, th, K, bl, q⟩
  · exact ⟨-1, s, t, rX_order e1, rM_order e2, h⟩
  · obtain ⟨hb, -, w, fw, X, w1, w2, w3, w4, w5, w6, w7, w8⟩ := q.2.2.2.2.2.2.1 rfl
    obtain ⟨v, r1, r2⟩ := order_alike (en := en) (d := d + 198) (a := a1) (q := a2) w2 w3 (IVp_P q rfl) (IVp_11 q hb).2.1
    exact ⟨v, s, t, r1, qev_up 1 (d + 199) (by omega) r2, h⟩
theorem al_race (h : IV0 s t) : ∃ (v : Int32) (s' t' : qS), qev en (d + 200) 228 [.ref 0, .int a1, .int a2] s = some (some (.int v), s') ∧ qev en (d + 200) 381 [.ref 151, .int a1, .int a2] t = some (some (.int v), t') ∧ IV0 s' t' := by
  rcases IV0_e h with ⟨e1, e2⟩ | ⟨b, o, x, g, y, P, P2, V, U, cl, nc, nl, nt, m, N, th, K, bl, q⟩
  · exact ⟨-1, s, t, rX_race e1, rM_race e2, h⟩
  · obtain ⟨-, -, w, fw, X, w1, w2, w3, w4, w5, w6, w7, w8⟩ := q.2.2.2.2.2.2.1 rfl
    obtain ⟨v, r1, r2⟩ := raceX_alike (en := en) (d := d + 198) (d' := d + 199) (a := a1) (q := a2) w2 w3
    exact ⟨v, s, t, r1, r2, h⟩
end TOPB
