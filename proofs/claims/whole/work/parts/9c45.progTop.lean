/-! THE TOP: laws judged, programs read. -/
section TOPG
variable {en : pN} {d d' k i n N j r v u m nc nl nt key a w p len : Nat} {V cl th K : Nat → Nat} {U : Nat → Nat → Nat} {bl : Nat → List Nat} {go : Nat → Bool} {s s' t t' τ τ' σ σ' : qS} {e x g y b o o' e' x' g' y' fw : Bool} {z a1 a2 a3 : Int32} {P P2 P3 : Nat → fI} {X : xT} {F M T : fI} {f f' : Nat → fI}
theorem al_judge (h : IV0 s t) : ∃ (v : Int32) (s' t' : qS), qev en (d + 200) 232 [.ref 0] s = some (some (.int v), s') ∧ qev en (d + 200) 392 [.ref 151] t = some (some (.int v), t') ∧ IV0 s' t' := by
  rcases IV0_e h with ⟨e1, e2⟩ | ⟨b, o, x, g, y, P, P2, V, U, cl, nc, nl, nt, m, N, th, K, bl, q⟩
  · exact ⟨-1, s, t, rX_judge e1, rM_judge e2, h⟩
  · obtain ⟨⟨⟨n, B, h1, h2⟩, ⟨h3, h4⟩, h5, ⟨⟨h6, h7⟩, ⟨h8, h9⟩, h10⟩, ⟨Mt, h11, h12⟩⟩, h13, h14, h15, h16, h17, h18, h19⟩ := id q
    obtain ⟨hb, hx, w, fw, X, w1, w2, w3, w4, w5, w6, w7, w8⟩ := h18 rfl
    have hP := IVp_P q rfl
    have pq : ∀ z : Bool, ((if z = true then 36 else 11) = 11 ∨ (if z = true then 36 else 11) = 36) := fun z => by cases z <;> simp
    obtain ⟨s', t', v, F, r1, r2, j1, j2, j3, j4, ⟨j5, j6, jF, j7⟩, ⟨j8, j9⟩, jx, jm, jz, jk⟩ := judge_alike (en := en) (d := d + 67) (d' := d + 188) h1 h2 h5 h3 (h15 hb).1.1 hP w1 w4 w5 w2 w3 (pq x) h10
    have nT : ∀ a, 6 < a → ¬ sT a := fun a h z => absurd z.2 (by omega)
    have sI : ∀ c, 6 < c ∧ c ≠ 61 ∧ c ≠ 62 ∧ c ≠ 63 ∧ c ≠ 64 ∧ c ≠ 65 ∧ c ≠ 69 ∧ c ≠ 72 ∧ (c < 103 ∨ 110 < c) → s'.1 c = s.1 c := fun c hc => jx.1 c (by omega) (by omega) (by omega) (by omega) (by omega) (by omega) (by omega) (by omega) (nT c hc.1) (by omega)
    have sJ : ∀ c, 6 < c → s'.2.1 c = s.2.1 c := fun c hc => jx.2.2.2.1 c (Or.inl (nT c hc))
    have sR' : ∀ c k, 6 < c → c ≠ 65 → s'.2.2 c k = s.2.2 c k := fun c k hc h65 => jx.2.2.2.2.1 c k (nT c hc) (fun z => h65 z.1)
    have tI : ∀ c, c ≠ 151 ∧ c ≠ 161 ∧ c ≠ 162 ∧ c ≠ 163 ∧ c ≠ 187 ∧ c ≠ 189 ∧ (c < 233 ∨ 246 < c) → t'.1 c = t.1 c := fun c hc => jm.1 c hc.1 hc.2.1 hc.2.2.1 hc.2.2.2.1 hc.2.2.2.2.1 hc.2.2.2.2.2.1 hc.2.2.2.2.2.2
    have tF : ∀ j, jmJ j = false → t'.1 151 j = t.1 151 j := jm.2.2.1
    have tJ : ∀ c, c ≠ 151 → t'.2.1 c = t.2.1 c := jm.2.2.2.1
    have mbv : ∀ (v : Nat) (Q : Nat → fI), MB t v Q nc nl nt N → MB t' v Q nc nl nt N := fun v Q hB => MB_v hB (fun c hc => tI c (by omega)) jm.2.1 (fun c c1 c2 _ _ => by rw [tI c (by omega)]) (fun _ _ => by rw [tI 181 (by decide)])
    refine ⟨v, s', t', r1, r2, IVp.to (b := b) (o := o) (e := true) (x := x) (g := g) (y := y) (P := P) (P2 := P2) (V := V) (U := U) (cl := cl) (nc := nc) (nl := nl) (nt := nt) (m := m) (N := N) (th := th) (K := K) (bl := bl) ⟨⟨⟨0, B, ?_, ?_⟩, ⟨jk, ?_⟩, jz, ⟨⟨j5.trans j6.symm, j7.symm⟩, ⟨j4 h8, ?_⟩, j3⟩, ⟨Mt, ?_, ?_⟩⟩, ?_, ?_, fun _ => ?_, fun ho => ?_, ?_, fun _ => ⟨hb, hx, w, fw, X, w1, j1, j2, w4, w5, ⟨w6.1, xtI_eq w6.2 (tI 175 (by decide)) (tJ 180 (by decide))⟩, ?_, ?_⟩, fun hg => ?_⟩⟩
    · exact ⟨j8, by omega, fun i hi => absurd hi (Nat.not_lt_zero i), fun i hi => absurd hi (Nat.not_lt_zero i)⟩
    · exact ⟨j9, by omega, fun i hi => absurd hi (Nat.not_lt_zero i), fun i hi => absurd hi (Nat.not_lt_zero i)⟩
    · rw [sJ 66 (by decide)]; exact h4
    · rw [jx.2.1 14 (by decide), tF 150 rfl]; exact h9
    · unfold tdI; rw [sI 125 (by decide), sI 150 (by decide)]; exact h11
    · unfold tmI; rw [tF 96 rfl, tI 208 (by decide)]; exact h12
    · rw [jx.2.1 9 (by decide), tF 11 rfl]; exact h13
    · rw [jx.2.1 10 (by decide), tF 147 rfl]; exact h14
    · exact PGx_fr (h15 hb) ⟨fun c c1 c2 => sI c (by omega), fun j _ => by rw [sI 8 (by decide), sI 9 (by decide)]; exact ⟨rfl, rfl⟩, sI 68 (by decide), fun c hc => sJ c (by omega)⟩ ⟨fun c hc => tI c (by omega), jm.2.1, fun c c1 c2 j _ => by rw [tI c (by omega)], fun j _ => by rw [tI 181 (by decide)], fun j hj => tF j (by rcases hj with rfl | rfl | rfl | rfl | rfl <;> rfl), fun c hc => tJ c (by omega), fun j _ => by rw [tJ 180 (by decide)]⟩
    · obtain ⟨q1, q2⟩ := h16 ho
      exact ⟨q1, rwI_fr q2 (fun c hc => sI c (by omega)) ⟨fun c hc => tI c (by omega), jm.2.1, fun c c1 c2 j _ _ => by rw [tI c (by omega)], fun j _ _ => by rw [tI 181 (by decide)], tF 32 rfl, fun j _ _ => by rw [tJ 180 (by decide)]⟩⟩
    · unfold flE
      rw [sI 70 (by decide), jx.2.1 11 (by decide), jx.2.1 12 (by decide), sI 111 (by decide), tF 98 rfl, tF 148 rfl, tF 74 rfl, tF 149 rfl]
      exact h17
    · unfold swx; rw [sI 70 (by decide), sI 96 (by decide)]; exact w7
    · unfold swm; rw [tF 121 rfl, tI 229 (by decide)]; exact w8
    · obtain ⟨q1, q2, w, M, len, f, f', v1, v2, v3, v4, v5, v6, v7⟩ := h19 hg
      have hp := pq y
      exact ⟨q1, q2, w, M, len, f, f', v1, RXi.flw v2 (fun c hc => sI c (by omega)) (fun j _ => by rw [sI 8 (by decide), sI 9 (by decide)]; exact ⟨rfl, rfl⟩) (by rw [sI 112 (by decide)]) ⟨by rw [sI 111 (by decide)], by rw [sI 111 (by decide)]⟩ (sJ 124 (by decide)) (sR' 112 7 (by decide) (by decide)), RMi.flw v3 (mbv 3 _ v3.1) (fun c c1 c2 => tI c (by omega)) (fun j hj => tF j (by rcases hj with rfl | rfl | rfl | rfl | rfl | rfl <;> rfl)) (tJ 199 (by decide)) (fun j _ => by rw [tJ 180 (by decide)]), v4, v5, v6, fun l hl hk => by rw [tJ 180 (by decide)]; exact v7 l hl hk⟩
theorem al_program (h : IV0 s t) : ∃ (v : Int32) (s' t' : qS), qev en (d + 200) 204 [.ref 0] s = some (some (.int v), s') ∧ qev en (d + 200) 289 [.ref 151] t = some (some (.int v), t') ∧ IV0 s' t' := by
  obtain ⟨b, o, e, x, g, y, P, P2, V, U, cl, nc, nl, nt, m, N, th, K, bl, ⟨⟨n, B, h1, h2⟩, ⟨h3, h4⟩, h5, ⟨⟨h6, h7⟩, ⟨h8, h9⟩, h10⟩, ⟨Mt, h11, h12⟩⟩, h13, h14, h15, h16, h17, h18, h19⟩ := h
  let s5 : qS := uI (uI (uI (uI (uI s 70 17 0) 111 4 0) 0 10 0) 0 13 (-2)) 0 14 (-2)
  let t13 : qS := uI (uI (uI (uI (uI (uI (uI (uI (uI (uI (uI (uI (uI t 151 11 0) 151 98 0) 151 74 0) 151 147 0) 151 12 0) 151 16 0) 151 18 0) 151 32 0) 151 25 0) 151 28 0) 151 29 0) 151 150 (-2)) 151 131 (-2)
  have s5o : ∀ c, c ≠ 0 ∧ c ≠ 70 ∧ c ≠ 111 → s5.1 c = s.1 c := fun c hc => by
    show (uI (uI (uI (uI (uI s 70 17 0) 111 4 0) 0 10 0) 0 13 (-2)) 0 14 (-2)).1 c = _
    rw [uI_ne hc.1, uI_ne hc.1, uI_ne hc.1, uI_ne hc.2.2, uI_ne hc.2.1]
  have s50 : ∀ j, s5.1 0 j = if j = 14 then -2 else if j = 13 then -2 else if j = 10 then 0 else s.1 0 j := fun j => by
    show (uI (uI (uI (uI (uI s 70 17 0) 111 4 0) 0 10 0) 0 13 (-2)) 0 14 (-2)).1 0 j = _
    simp only [rdU, true_and, show ¬ (0 = 111) by decide, show ¬ (0 = 70) by decide, false_and, if_false]
  have t13o : ∀ c, c ≠ 151 → t13.1 c = t.1 c := fun c hc => by
    show (uI (uI (uI (uI (uI (uI (uI (uI (uI (uI (uI (uI (uI t 151 11 0) 151 98 0) 151 74 0) 151 147 0) 151 12 0) 151 16 0) 151 18 0) 151 32 0) 151 25 0) 151 28 0) 151 29 0) 151 150 (-2)) 151 131 (-2)).1 c = _
    rw [uI_ne hc, uI_ne hc, uI_ne hc, uI_ne hc, uI_ne hc, uI_ne hc, uI_ne hc, uI_ne hc, uI_ne hc, uI_ne hc, uI_ne hc, uI_ne hc, uI_ne hc]
  have t13f : ∀ j, t13.1 151 j = if j = 131 then -2 else if j = 150 then -2 else if j = 29 ∨ j = 28 ∨ j = 25 ∨ j = 32 ∨ j = 18 ∨ j = 16 ∨ j = 12 ∨ j = 147 ∨ j = 74 ∨ j = 98 ∨ j = 11 then 0 else t.1 151 j := fun j => by
    show (uI (uI (uI (uI (uI (uI (uI (uI (uI (uI (uI (uI (uI t 151 11 0) 151 98 0) 151 74 0) 151 147 0) 151 12 0) 151 16 0) 151 18 0) 151 32 0) 151 25 0) 151 28 0) 151 29 0) 151 150 (-2)) 151 131 (-2)).1 151 j = _
    simp only [rdU, true_and]
    by_cases c1 : j = 131
    · rw [if_pos c1, if_pos c1]
    rw [if_neg c1, if_neg c1]
    by_cases c2 : j = 150
    · rw [if_pos c2, if_pos c2]
    rw [if_neg c2, if_neg c2]
    by_cases c3 : j = 29 ∨ j = 28 ∨ j = 25 ∨ j = 32 ∨ j = 18 ∨ j = 16 ∨ j = 12 ∨ j = 147 ∨ j = 74 ∨ j = 98 ∨ j = 11
    · rw [if_pos c3]
      rcases c3 with rfl | rfl | rfl | rfl | rfl | rfl | rfl | rfl | rfl | rfl | rfl <;> rfl
    · rw [if_neg c3, if_neg (by omega), if_neg (by omega), if_neg (by omega), if_neg (by omega), if_neg (by omega), if_neg (by omega), if_neg (by omega), if_neg (by omega), if_neg (by omega), if_neg (by omega), if_neg (by omega)]
  have T5 : TX s5 n B := by
    unfold TX; rw [s5o 1 (by decide), s5o 2 (by decide)]; exact h1
  have M13 : MX t13 n B := by
    unfold MX; rw [t13f 1, if_neg (by decide), if_neg (by decide), if_neg (by decide), t13o 152 (by decide)]; exact h2
  obtain ⟨s', t', F, r1, r2, ⟨r3, rF⟩, px, pm, pz, ⟨m9, m10, m1, m11⟩, pk, pg⟩ := readProg_al (en := en) (d := d + 34) (d' := d + 182) (n := n) (B := B) T5 M13 (show frS sT s5 from h5) h3 h4 (fun j hj => by
    rw [t13f j, if_neg (by omega), if_neg (by omega), if_pos (by omega)])
  let s9 : qS := uI (uI s' 1 5 0) 0 9 (bt (decide (F = 0)))
  have s9o : ∀ c, c ≠ 0 ∧ c ≠ 1 → s9.1 c = s'.1 c := fun c hc => by
    show (uI (uI s' 1 5 0) 0 9 _).1 c = _
    rw [uI_ne hc.1, uI_ne hc.2]
  have e0 : s'.1 0 = s5.1 0 := px.1 0 (by decide) (by decide) (fun z => absurd z.1 (by decide)) (by decide)
  have s90 : ∀ j, j ≠ 9 → s9.1 0 j = s5.1 0 j := fun j hj => by
    show (uI (uI s' 1 5 0) 0 9 _).1 0 j = _
    rw [rdU, if_neg (fun z => hj z.2), uI_ne (by decide), e0]
  have pX : ∀ c, 35 < c ∧ c ≠ 65 ∧ c ≠ 68 → s9.1 c = s5.1 c := fun c hc => (s9o c (by omega)).trans (px.1 c hc.2.1 hc.2.2 (fun z => absurd z.2 (by omega)) (by omega))
  have rX : qev en (d + 200) 204 [.ref 0] s = some (some (.int (nI F)), s9) := by
    refine le_X11_program en _ _ _ ?_
    rw [nm_eq, nm_eq, nm_eq, nm_eq, nm_eq, show qev en (d + 199) 117 [.ref 65] s5 = _ from r1, bV_some, nm_eq, show (uI s' 1 5 0).1 65 11 = nI F from by rw [uI_ne (by decide)]; exact r3]
    by_cases c : F = 0
    · rw [if_neg (not_not_intro (by rw [c]; rfl))]
      refine le_X11_program_64 en _ _ _ _ ?_
      rw [gd_true (by decide), nm_eq, show (uI (uI s' 1 5 0) 0 9 1).1 65 11 = nI F from by rw [uI_ne (by decide), uI_ne (by decide)]; exact r3]
      show some (some (Value.int (nI F)), uI (uI s' 1 5 0) 0 9 1) = some (some (.int (nI F)), uI (uI s' 1 5 0) 0 9 (bt (decide (F = 0))))
      rw [show bt (decide (F = 0)) = 1 by rw [decide_eq_true c]; rfl]
    · rw [if_pos (by rw [n_eq (by decide) (by omega)]; exact c)]
      refine le_X11_program_64 en _ _ _ _ ?_
      rw [gd_true (by decide), nm_eq, show (uI (uI s' 1 5 0) 0 9 0).1 65 11 = nI F from by rw [uI_ne (by decide), uI_ne (by decide)]; exact r3]
      show some (some (Value.int (nI F)), uI (uI s' 1 5 0) 0 9 0) = some (some (.int (nI F)), uI (uI s' 1 5 0) 0 9 (bt (decide (F = 0))))
      rw [show bt (decide (F = 0)) = 0 by rw [decide_eq_false c]; rfl]
  have rM : qev en (d + 200) 289 [.ref 151] t = some (some (.int (nI F)), t') := by
    refine le_X12_program en _ _ _ ?_
    rw [nm_eq, nm_eq, nm_eq, nm_eq, nm_eq, nm_eq, nm_eq, nm_eq, nm_eq, nm_eq, nm_eq, nm_eq, nm_eq]
    exact r2
  have tF : ∀ j, pgJ j = false → t'.1 151 j = t13.1 151 j := pm.2.1
  have nh : ∀ (P P2 : Nat → fI) (V : Nat → Nat) (U : Nat → Nat → Nat) (cl : Nat → Nat) (nc nl nt m N : Nat) (th K : Nat → Nat) (bl : Nat → List Nat), (F = 0 → PGx s' t' P V U cl nc nl nt m N th K bl) → IV0 s9 t' := fun P P2 V U cl nc nl nt m N th K bl hP => by
    refine IVp.to (b := decide (F = 0)) (o := false) (e := false) (x := x) (g := false) (y := y) (P := P) (P2 := P2) (V := V) (U := U) (cl := cl) (nc := nc) (nl := nl) (nt := nt) (m := m) (N := N) (th := th) (K := K) (bl := bl) ⟨⟨⟨0, B, ?_, ?_⟩, ⟨pk, ?_⟩, pz, ⟨⟨?_, ?_⟩, ⟨?_, ?_⟩, ?_⟩, ⟨Mt, ?_, ?_⟩⟩, ⟨?_, m11⟩, ⟨?_, ?_⟩, fun hb => ?_, fun z => (by cases z), ⟨⟨?_, ?_⟩, ?_, fun z => (by cases z), ⟨?_, ?_⟩, ?_, fun z => (by cases z)⟩, fun z => (by cases z), fun z => (by cases z)⟩
    · refine ⟨?_, by omega, fun i hi => absurd hi (Nat.not_lt_zero i), fun i hi => absurd hi (Nat.not_lt_zero i)⟩
      show (uI (uI s' 1 5 0) 0 9 _).1 1 5 = 0
      rw [uI_ne (by decide), rdU, if_pos ⟨rfl, rfl⟩]
    · exact ⟨m1, by omega, fun i hi => absurd hi (Nat.not_lt_zero i), fun i hi => absurd hi (Nat.not_lt_zero i)⟩
    · show ∀ j, j < 7 → s'.2.1 66 j = _
      rw [px.2.2.2.1 66 (fun z => absurd z.2 (by decide)) (by decide) (by decide) (by decide)]
      exact h4
    · rw [s9o 65 (by decide), m9]; exact r3
    · rw [s9o 65 (by decide)]; exact m10.symm
    · rw [s90 13 (by decide), s50, if_neg (by decide), if_pos rfl, tF 131 rfl, t13f, if_pos rfl]
    · rw [s90 14 (by decide), s50, if_pos rfl, tF 150 rfl, t13f, if_neg (by decide), if_pos rfl]
    · rw [pX 103 (by decide), s5o 103 (by decide)]; exact h10
    · unfold tdI; rw [pX 125 (by decide), pX 150 (by decide), s5o 125 (by decide), s5o 150 (by decide)]; exact h11
    · unfold tmI; rw [tF 96 rfl, t13f, if_neg (by decide), if_neg (by decide), if_neg (by decide), pm.1 208 (by decide) (by decide), t13o 208 (by decide)]; exact h12
    · show (uI (uI s' 1 5 0) 0 9 _).1 0 9 = _
      rw [rdU, if_pos ⟨rfl, rfl⟩]
    · rw [s90 10 (by decide), s50, if_neg (by decide), if_neg (by decide), if_pos rfl]; rfl
    · rw [tF 147 rfl, t13f, if_neg (by decide), if_neg (by decide), if_pos (by decide)]; rfl
    · exact PGx_fr (hP (of_decide_eq_true hb)) ⟨fun c c1 c2 => s9o c (by omega), fun j _ => by rw [s9o 8 (by decide), s9o 9 (by decide)]; exact ⟨rfl, rfl⟩, s9o 68 (by decide), fun _ _ => rfl⟩ ⟨fun _ _ => rfl, fun _ _ => ⟨rfl, rfl⟩, fun _ _ _ _ _ => rfl, fun _ _ => rfl, fun _ _ => rfl, fun _ _ => rfl, fun _ _ => rfl⟩
    · rw [pX 70 (by decide)]
      show (uI (uI (uI (uI (uI s 70 17 0) 111 4 0) 0 10 0) 0 13 (-2)) 0 14 (-2)).1 70 17 = _
      rw [uI_ne (by decide), uI_ne (by decide), uI_ne (by decide), uI_ne (by decide), rdU, if_pos ⟨rfl, rfl⟩]; rfl
    · rw [tF 98 rfl, t13f, if_neg (by decide), if_neg (by decide), if_pos (by decide)]; rfl
    · exact fun z => (by cases z)
    · rw [pX 111 (by decide)]
      show (uI (uI (uI (uI (uI s 70 17 0) 111 4 0) 0 10 0) 0 13 (-2)) 0 14 (-2)).1 111 4 = 0 ↔ _
      rw [uI_ne (by decide), uI_ne (by decide), uI_ne (by decide), rdU, if_pos ⟨rfl, rfl⟩]; exact ⟨fun _ => rfl, fun _ => rfl⟩
    · rw [tF 74 rfl, t13f, if_neg (by decide), if_neg (by decide), if_pos (by decide)]; exact ⟨fun _ => rfl, fun _ => rfl⟩
    · rw [s90 12 (by decide), s50, if_neg (by decide), if_neg (by decide), if_neg (by decide)]; exact h17.2.2.2.2.1
  refine ⟨nI F, s9, t', rX, rM, ?_⟩
  by_cases c : F = 0
  · obtain ⟨P', V', U', cl', nc', nl', nt', m', N', th', K', bl', hg⟩ := pg c
    exact nh P' P2 V' U' cl' nc' nl' nt' m' N' th' K' bl' (fun _ => hg)
  · exact nh P P2 V U cl nc nl nt m N th K bl (fun z => absurd z c)
end TOPG
