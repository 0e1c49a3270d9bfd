/-! THE TOP: what stands before what, races of a run, linear, judged. -/
section TOPF
variable {en : pN} {d d' k i n N j r v u m nc nl nt key a w p len : Nat} {V cl th K : Nat → Nat} {U : Nat → Nat → Nat} {bl : Nat → List Nat} {go : Nat → Bool} {s s' t t' τ τ' σ σ' : qS} {e x g y b o o' e' x' g' y' fw : Bool} {z a1 a2 a3 : Int32} {P P2 P3 : Nat → fI} {X : xT} {F M T : fI} {f f' : Nat → fI}
theorem bS_k (h : a ≠ 200) : (bS t T).1 a = t.1 a := by
  funext j
  exact if_neg h
/-- only the row of what was come to -/
theorem IVp_bS (q : IVp s t b o e x true y P P2 V U cl nc nl nt m N th K bl) : IV0 s (bS t T) := by
  obtain ⟨b1, b2, w, M, len, f, f', w1, w2, w3, w4, w5, w6, w7⟩ := q.2.2.2.2.2.2.2 rfl
  obtain ⟨Mt, h11, h12⟩ := q.1.2.2.2.2
  have hN : N ≤ 100 := (q.2.2.2.1 b1).1.2.1.2.2.1
  have e151 : (bS t T).1 151 = t.1 151 := bS_k (by decide)
  refine (IVp_r (g' := true) (y' := y) q (fun _ _ _ _ _ _ _ _ _ => rfl) (fun _ _ => rfl) (fun _ _ => rfl) (fun _ _ _ => rfl) (fun c _ _ c3 => bS_k (by omega)) (fun c c1 c2 j _ => by rw [bS_k (by omega)]) (fun j _ => by rw [bS_k (by decide)]) (fun j _ _ _ _ _ _ _ _ => by rw [e151]) (fun _ _ _ _ => rfl) (fun _ _ => rfl) ⟨Mt, h11, ?_⟩ ?_ (fun _ => ⟨b1, b2, w, M, len, f, f', w1, w2, RMi.flw w3 (MB_v w3.1 (fun c hc => bS_k (by omega)) (fun j _ => by rw [bS_k (by decide), bS_k (by decide)]; exact ⟨rfl, rfl⟩) (fun c c1 c2 i _ => by rw [bS_k (by omega)]) (fun u _ => by rw [bS_k (by decide)])) (fun c c1 c2 => bS_k (by omega)) (fun j _ => by rw [e151]) rfl (fun _ _ => rfl), w4, w5, w6, w7⟩)).to
  · unfold tmI
    rw [e151, bS_k (by decide)]
    exact h12
  · unfold flE
    rw [e151]
    exact q.2.2.2.2.2.1
theorem al_before (h : IV0 s t) : ∃ (v : Int32) (s' t' : qS), qev en (d + 200) 216 [.ref 0, .int a1, .int a2] s = some (some (.int v), s') ∧ qev en (d + 200) 346 [.ref 151, .int a1, .int a2] t = some (some (.int v), t') ∧ IV0 s' t' := by
  rcases IV0_g h with ⟨e1, e2⟩ | ⟨b, o, e, x, y, P, P2, V, U, cl, nc, nl, nt, m, N, th, K, bl, q⟩
  · exact ⟨-1, s, t, rX_before e1, rM_before e2, h⟩
  · obtain ⟨hb, -, w, M, len, f, f', w1, w2, w3, w4, w5, w6, w7⟩ := q.2.2.2.2.2.2.2 rfl
    obtain ⟨p1, p2, p3⟩ := IVp_rP q rfl
    obtain ⟨v, T, r1, r2, r3⟩ := before_alike (en := en) (d := d + 196) (u := a1) (v := a2) w2 w3 p1 w5 w1.2
    exact ⟨v, s, bS t T, qev_up 2 (d + 198) (by omega) r1, r2, IVp_bS q⟩
theorem al_runRace (h : IV0 s t) : ∃ (v : Int32) (s' t' : qS), qev en (d + 200) 217 [.ref 0, .int a1, .int a2] s = some (some (.int v), s') ∧ qev en (d + 200) 348 [.ref 151, .int a1, .int a2] t = some (some (.int v), t') ∧ IV0 s' t' := by
  rcases IV0_g h with ⟨e1, e2⟩ | ⟨b, o, e, x, y, P, P2, V, U, cl, nc, nl, nt, m, N, th, K, bl, q⟩
  · exact ⟨-1, s, t, rX_runRace e1, rM_runRace e2, h⟩
  · obtain ⟨hb, -, w, M, len, f, f', w1, w2, w3, w4, w5, w6, w7⟩ := q.2.2.2.2.2.2.2 rfl
    obtain ⟨p1, p2, p3⟩ := IVp_rP q rfl
    obtain ⟨v, T, r1, r2, r3⟩ := race_alike (en := en) (d := d + 196) (u := a1) (v := a2) w2 w3 p1 w5 w1.2
    exact ⟨v, s, bS t T, r1, r2, IVp_bS q⟩
theorem al_linear (h : IV0 s t) : ∃ (v : Int32) (s' t' : qS), qev en (d + 200) 218 [.ref 0, .int a1] s = some (some (.int v), s') ∧ qev en (d + 200) 353 [.ref 151, .int a1] t = some (some (.int v), t') ∧ IV0 s' t' := by
  rcases IV0_g h with ⟨e1, e2⟩ | ⟨b, o, e, x, y, P, P2, V, U, cl, nc, nl, nt, m, N, th, K, bl, q⟩
  · exact ⟨-1, s, t, rX_linear e1, rM_linear e2, h⟩
  · obtain ⟨b1, b2, w, M, len, f, f', w1, w2, w3, w4, w5, w6, w7⟩ := q.2.2.2.2.2.2.2 rfl
    obtain ⟨p1, p2, p3⟩ := IVp_rP q rfl
    obtain ⟨Mt, h11, h12⟩ := q.1.2.2.2.2
    have pq : ((if y = true then 36 else 11) = 11 ∨ (if y = true then 36 else 11) = 36) := by cases y <;> simp
    obtain ⟨v, s', t', r1, r2, ⟨f1, f2⟩, ⟨g1, g2, g3⟩, ht⟩ := linear_alike (en := en) (d := d + 171) (u := a1) w2 w3 p1 w5 w6 w1.2 (w2.1.2.2.2.1 16 (by decide)) w7
    have m5 : ∀ j, j ≠ 87 ∧ j ≠ 96 → t'.1 151 j = t.1 151 j := fun j hj => g2 j hj.1 hj.2
    refine ⟨v, s', t', r1, qev_up 25 (d + 175) (by omega) r2, (IVp_r (g' := true) (y' := y) q (fun c _ _ _ _ _ _ _ c8 => f1 c (by omega)) (fun j _ => by rw [f1 0 (by decide)]) (fun c _ => by rw [f2]) (fun a k _ => by rw [f2]) (fun c c1 _ c3 => g1 c c1 (by omega)) (fun c c1 c2 j _ => by rw [g1 c (by omega) (by omega)]) (fun j _ => by rw [g1 181 (by decide) (by decide)]) (fun j _ _ _ _ j5 j6 _ _ => g2 j j5 j6) (fun c _ _ _ => by rw [g3]) (fun j _ => by rw [g3]) ?_ ?_ (fun _ => ⟨b1, b2, w, M, len, f, f', w1, RXi.flw w2 (fun c hc => f1 c (by omega)) (fun j _ => by rw [f1 8 (by decide), f1 9 (by decide)]; exact ⟨rfl, rfl⟩) (by rw [f1 112 (by decide)]) ⟨by rw [f1 111 (by decide)], by rw [f1 111 (by decide)]⟩ (by rw [f2]) (by rw [f2]), RMi.flw w3 (MB_v w3.1 (fun c hc => g1 c (by omega) (by omega)) (fun j _ => by rw [g1 161 (by decide) (by decide), g1 162 (by decide) (by decide)]; exact ⟨rfl, rfl⟩) (fun c c1 c2 i _ => by rw [g1 c (by omega) (by omega)]) (fun u _ => by rw [g1 181 (by decide) (by decide)])) (fun c c1 c2 => g1 c (by omega) (by omega)) (fun j hj => m5 j (by omega)) (by rw [g3]) (fun _ _ => by rw [g3]), w4, w5, w6, fun l hl hk => by rw [g3]; exact w7 l hl hk⟩)).to⟩
    · rcases ht with ⟨M', k1, k2⟩ | ⟨⟨k1, k2⟩, ⟨k3, k4⟩⟩
      · exact ⟨M', k1, k2⟩
      · refine ⟨Mt, ?_, ?_⟩
        · unfold tdI; rw [k1, k2]; exact h11
        · unfold tmI; rw [k3, k4]; exact h12
    · unfold flE
      rw [f1 0 (by decide), f1 70 (by decide), f1 111 (by decide), m5 98 (by decide), m5 148 (by decide), m5 74 (by decide), m5 149 (by decide)]
      exact q.2.2.2.2.2.1
end TOPF
