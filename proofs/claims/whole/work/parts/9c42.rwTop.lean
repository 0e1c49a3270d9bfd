/-! THE TOP: rewritings. -/
section TOPD
variable {en : pN} {d d' k i n N j r v u m nc nl nt key a w p len : Nat} {V cl th K : Nat → Nat} {U : Nat → Nat → Nat} {bl : Nat → List Nat} {go : Nat → Bool} {s s' t t' τ τ' σ σ' : qS} {e x g y b o o' e' x' g' y' fw : Bool} {z a1 a2 a3 : Int32} {P P2 P3 : Nat → fI} {X : xT} {F M : fI} {f f' : Nat → fI}
/-- what a rewriting leaves as it is -/
theorem IVp_w (h : IVp s t b o e x g y P P2 V U cl nc nl nt m N th K bl) (f : wrX s s') (q : wrM t t') (h10 : s'.1 0 10 = bt o' ∧ t'.1 151 147 = bt o') (hf : flE s' t' e' x' g' y') (ho : o' = true → b = true ∧ rwI s' t' P3 cl nc nl nt N th K) (he : e' = true → x' = false ∧ e = true ∧ x = false) (hg : g' = true → y' = false ∧ g = true ∧ y = false) : IVp s' t' b o' e' x' g' y' P P3 V U cl nc nl nt m N th K bl := by
  obtain ⟨⟨⟨n, B, h1, h2⟩, ⟨h3, h4⟩, h5, ⟨⟨h6, h7⟩, ⟨h8, h9⟩, h10'⟩, ⟨Mt, h11, h12⟩⟩, h13, h14, h15, h16, h17, h18, h19⟩ := h
  obtain ⟨f1, f2, f3, f4, f5, f6, f7⟩ := f
  obtain ⟨q1, q2, q3, q4, q5, q6, q7⟩ := q
  have sI : ∀ c, (c < 36 ∨ 60 < c) ∧ c ≠ 0 ∧ c ≠ 70 ∧ c ≠ 111 ∧ c ≠ 8 ∧ c ≠ 9 → s'.1 c = s.1 c := fun c hc => f1 c (by omega) (by omega) (by omega) (by omega) (by omega) (by omega)
  have sJ : ∀ c, c ≠ 37 ∧ c ≠ 38 → s'.2.1 c = s.2.1 c := fun c hc => f6 c hc.1 hc.2
  have tI : ∀ c, (c < 164 ∨ 181 < c) ∧ c ≠ 151 → t'.1 c = t.1 c := fun c hc => q1 c hc.2 hc.1
  have m5 : ∀ j, j ≠ 74 ∧ j ≠ 98 ∧ j ≠ 147 → t'.1 151 j = t.1 151 j := fun j hj => q4 j hj.1 hj.2.1 hj.2.2
  have mbv : ∀ (v : Nat) (Q : Nat → fI), v ≠ 1 → N ≤ 100 → nt ≤ 4 → MB t v Q nc nl nt N → MB t' v Q nc nl nt N := fun v Q hv hN hnt hB => MB_v hB (fun c hc => tI c (by omega)) (fun j _ => by rw [tI 161 (by decide), tI 162 (by decide)]; exact ⟨rfl, rfl⟩) (fun c c1 c2 i hi => q2 c c1 (by omega) _ (by omega)) (fun u hu => q3 _ (by omega))
  have hb9 : s'.1 0 9 = s.1 0 9 := f3 9 (by decide) (by decide) (by decide)
  refine ⟨⟨⟨n, B, ?_, ?_⟩, ⟨?_, ?_⟩, fun a k ha hk => ?_, ⟨⟨?_, ?_⟩, ⟨?_, ?_⟩, ?_⟩, ⟨Mt, ?_, ?_⟩⟩, ?_, h10, fun hb => ?_, ho, hf, fun z => ?_, fun z => ?_⟩
  · unfold TX; rw [sI 1 (by decide), sI 2 (by decide)]; exact h1
  · unfold MX; rw [m5 1 (by decide), tI 152 (by decide)]; exact h2
  · rw [sJ 3 (by decide)]; exact h3
  · rw [sJ 66 (by decide)]; exact h4
  · rw [f7] at hk ⊢; exact h5 a k ha hk
  · rw [sI 65 (by decide), m5 9 (by decide)]; exact h6
  · rw [sI 65 (by decide), m5 10 (by decide)]; exact h7
  · rw [f3 13 (by decide) (by decide) (by decide), m5 131 (by decide)]; exact h8
  · rw [f3 14 (by decide) (by decide) (by decide), m5 150 (by decide)]; exact h9
  · rw [sI 103 (by decide)]; exact h10'
  · unfold tdI; rw [sI 125 (by decide), sI 150 (by decide)]; exact h11
  · unfold tmI; rw [m5 96 (by decide), tI 208 (by decide)]; exact h12
  · rw [hb9, m5 11 (by decide)]; exact h13
  · exact PGx_fr (h15 hb) ⟨fun c _ c2 => sI c (by omega), f2, sI 68 (by decide), fun c hc => sJ c (by omega)⟩ ⟨fun c hc => tI c (by omega), fun j _ => by rw [tI 161 (by decide), tI 162 (by decide)]; exact ⟨rfl, rfl⟩, fun c c1 c2 j hj => q2 c c1 (by omega) j (by omega), fun j hj => q3 j (by omega), fun j hj => m5 j (by omega), fun c hc => q5 c (by omega), fun j hj => q6 j (by omega)⟩
  · obtain ⟨z1, z2, z3⟩ := he z
    obtain ⟨g1, -, w, fw, X, w1, w2, w3, w4, w5, w6, w7, w8⟩ := h18 z2
    have hP := h15 g1
    have hN : N ≤ 100 := hP.1.2.1.2.2.1
    have hnt : nt ≤ 4 := hP.1.1.1.2.2
    have hlm : lmN P = 400 := hP.2.2.2.1.2.1
    refine ⟨g1, fun y1 => (by rw [z1] at y1; cases y1), ?_⟩
    rw [z1, if_neg (by decide), if_neg (by decide)]
    rw [z3, if_neg (by decide)] at w2 w3 w4 w6 w7 w8
    rw [if_neg (by decide)] at w2
    have e17 : s'.1 70 17 = s.1 70 17 := by rw [hf.1.1, h17.1.1, z, z2]
    have e98 : t'.1 151 98 = t.1 151 98 := by rw [hf.1.2, h17.1.2, z, z2]
    refine ⟨w, fw, X, w1, w2.flw ⟨fun c hc => sI c (by omega), fun j hj => f2 j (by omega), fun j hj => ?_, sJ 84 (by decide), by rw [f7]⟩, w3.fl (mbv 2 _ (by decide) hN hnt w3.flat.1.1) ⟨fun c c1 _ => tI c (by omega), fun j hj => ?_⟩, w4, w5, ⟨w6.1, xtI_fr w6.2 hN (fun j j1 j2 => q2 175 (by decide) (by decide) j (by omega)) (fun j j1 j2 => q6 j (by omega))⟩, ?_, ?_⟩
    · by_cases q17 : j = 17
      · rw [q17]; exact e17
      · exact f4 j q17
    · by_cases q98 : j = 98
      · rw [q98]; exact e98
      · exact m5 j (by omega)
    · unfold swx; rw [f4 19 (by decide), sI 96 (by decide)]; exact w7
    · unfold swm; rw [m5 121 (by decide), tI 229 (by decide)]; exact w8
  · obtain ⟨z1, z2, z3⟩ := hg z
    obtain ⟨g1, -, w, M, len, f, f', w1, w2, w3, w4, w5, w6, w7⟩ := h19 z2
    have hP := h15 g1
    have hN : N ≤ 100 := hP.1.2.1.2.2.1
    have hnt : nt ≤ 4 := hP.1.1.1.2.2
    have hlm : lmN P = 400 := hP.2.2.2.1.2.1
    refine ⟨g1, fun y1 => (by rw [z1] at y1; cases y1), ?_⟩
    rw [z1, if_neg (by decide), if_neg (by decide)]
    rw [z3, if_neg (by decide)] at w2 w3 w4 w5 w7
    rw [if_neg (by decide)] at w2
    have e4 : ¬ s'.1 111 4 = 0 := fun c => by have := hf.2.2.2.1.1.mp c; rw [z] at this; cases this
    have e74 : ¬ t'.1 151 74 = 0 := fun c => by have := hf.2.2.2.1.2.mp c; rw [z] at this; cases this
    refine ⟨w, M, len, f, f', w1, RXi.flv w2 (fun c hc => sI c (by omega)) (fun j hj => f2 j (by omega)) (by rw [sI 112 (by decide)]) ⟨f5 3 (by decide), e4⟩ (sJ 124 (by decide)) (by rw [f7]), RMi.flv w3 (mbv 3 _ (by decide) hN hnt w3.1) (fun c c1 c2 => tI c (by omega)) (fun j hj => m5 j (by omega)) e74 (q5 199 (by decide)) (fun j hj => q6 j (by omega)), w4, w5, w6, fun l hl hk => ?_⟩
    rw [q6 _ (by omega)]
    exact w7 l hl hk
theorem al_rewrite (h : IV0 s t) : ∃ (v : Int32) (s' t' : qS), qev en (d + 200) 234 [.ref 0, .int a1, .int a2] s = some (some (.int v), s') ∧ qev en (d + 200) 398 [.ref 151, .int a1, .int a2] t = some (some (.int v), t') ∧ IV0 s' t' := by
  obtain ⟨b, o, e, x, g, y, P, P2, V, U, cl, nc, nl, nt, m, N, th, K, bl, q⟩ := id h
  obtain ⟨v, s', t', r1, r2, f1, f2, f3⟩ := rewrite_alike (en := en) (d := d + 195) (d' := d + 197) (a1 := a1) (a2 := a2) q.2.1 q.2.2.1 q.2.2.2.1 (fun ho => (q.2.2.2.2.1 ho).2.1) q.2.2.2.2.2.1
  refine ⟨v, s', t', r1, r2, ?_⟩
  rcases f3 with ⟨rfl, rfl⟩ | ⟨ho, h10, hf, -⟩ | ⟨hb, h10, hf, hr, P3, hp⟩
  · exact h
  · refine (IVp_w (P3 := P2) q f1 f2 (o' := false) h10 hf (fun z => by cases z) (fun z => ?_) (fun z => ?_)).to
    · have hx : x = false := by
        cases hx : x with
        | false => rfl
        | true =>
          have := (q.2.2.2.2.2.2.1 z).2.1 hx
          rw [ho] at this
          cases this
      exact ⟨hx, z, hx⟩
    · have hy : y = false := by
        cases hy : y with
        | false => rfl
        | true =>
          have := (q.2.2.2.2.2.2.2 z).2.1 hy
          rw [ho] at this
          cases this
      exact ⟨hy, z, hy⟩
  · refine (IVp_w (P3 := P3) q f1 f2 (o' := true) h10 hf (fun _ => ⟨hb, hr, hp.1, hp.2.1, hp.2.2⟩) (fun z => ?_) (fun z => ?_)).to
    · cases e <;> cases x <;> first | exact ⟨rfl, rfl, rfl⟩ | cases z
    · cases g <;> cases y <;> first | exact ⟨rfl, rfl, rfl⟩ | cases z
theorem al_drop (h : IV0 s t) : ∃ (v : Int32) (s' t' : qS), qev en (d + 200) 235 [.ref 0] s = some (some (.int v), s') ∧ qev en (d + 200) 404 [.ref 151] t = some (some (.int v), t') ∧ IV0 s' t' := by
  obtain ⟨b, o, e, x, g, y, P, P2, V, U, cl, nc, nl, nt, m, N, th, K, bl, q⟩ := id h
  obtain ⟨v, s', t', r1, r2, f1, f2, -, -, h10, f3⟩ := drop_alike (en := en) (d := d + 198) (d' := d + 198) q.2.2.1 q.2.2.2.2.2.1
  refine ⟨v, s', t', r1, r2, ?_⟩
  rcases f3 with ⟨ho, hf⟩ | hf
  · refine (IVp_w (P3 := P2) q f1 f2 (o' := false) h10 hf (fun z => by cases z) (fun z => ?_) (fun z => ?_)).to
    · have hx : x = false := by
        cases hx : x with
        | false => rfl
        | true =>
          have := (q.2.2.2.2.2.2.1 z).2.1 hx
          rw [ho] at this
          cases this
      exact ⟨hx, z, hx⟩
    · have hy : y = false := by
        cases hy : y with
        | false => rfl
        | true =>
          have := (q.2.2.2.2.2.2.2 z).2.1 hy
          rw [ho] at this
          cases this
      exact ⟨hy, z, hy⟩
  · refine (IVp_w (P3 := P2) q f1 f2 (o' := false) h10 hf (fun z => by cases z) (fun z => ?_) (fun z => ?_)).to
    · cases e <;> cases x <;> first | exact ⟨rfl, rfl, rfl⟩ | cases z
    · cases g <;> cases y <;> first | exact ⟨rfl, rfl, rfl⟩ | cases z
end TOPD
