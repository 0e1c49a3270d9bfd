/-! THE TOP: what both sides share between two calls; a call of each, one behind the other. -/
/-- the class's rows that tell of all turns, but for its nodes -/
abbrev fxW (p : Nat) (P : Nat → fI) (τ τ' : qS) : Prop := (∀ c, (p ≤ c ∧ c < p + 25) ∨ c = 71 ∨ c = 72 ∨ c = 75 ∨ (76 ≤ c ∧ c ≤ 80) ∨ (83 ≤ c ∧ c ≤ 93) → τ'.1 c = τ.1 c) ∧ (∀ j, j < lmN P → τ'.1 8 j = τ.1 8 j ∧ τ'.1 9 j = τ.1 9 j) ∧ (∀ j, j = 13 ∨ j = 14 ∨ j = 17 ∨ j = 18 → τ'.1 70 j = τ.1 70 j) ∧ τ'.2.1 84 = τ.2.1 84 ∧ τ'.2.2 71 7 = τ.2.2 71 7
/-- the text -/
abbrev tkI (s t : qS) : Prop := ∃ (n : Nat) (B : Nat → Nat), TX s n B ∧ MX t n B
/-- the words that the class knows -/
abbrev kyI (s : qS) : Prop := (∀ j, j < 33 → s.2.1 3 j = Int64.ofNat (KN.getD j 0)) ∧ ∀ j, j < 7 → s.2.1 66 j = Int64.ofNat (CWN.getD j 0)
/-- fault, its place, the finding's state, the gained outcome -/
abbrev plI (s t : qS) : Prop := (s.1 65 11 = t.1 151 9 ∧ s.1 65 12 = t.1 151 10) ∧ (s.1 0 13 = t.1 151 131 ∧ s.1 0 14 = t.1 151 150) ∧ s.1 103 11 = 0
/-- the history that was told -/
abbrev tdR (s t : qS) : Prop := ∃ M : List Nat, tdI s M ∧ tmI t M
/-- the flags and words of version 2 -/
abbrev xtI (P : Nat → fI) (t : qS) (N : Nat) : Prop := (∀ i, i < N → vp_nar .boolean (t.1 175 (200 + i)) = t.1 175 (200 + i)) ∧ WDv t 2 N P
/-- all turns explored -/
abbrev xpI (P : Nat → fI) (p : Nat) (s t : qS) (nc nl nt N : Nat) : Prop := ∃ (w : Nat) (fw : Bool) (X : xT), w ≤ 2 ∧ EXx P w nc nl nt N p fw X s ∧ EXm P w nc nl nt N fw X t ∧ XV P w nc nl nt N X ∧ XJ X (xN X + 1) ∧ (xS X 0 = fst0 P w nc nt (fun _ => 0) ∧ xtI P t N) ∧ swx P w nt X s ∧ swm P w nt X t
/-- a run -/
abbrev ruI (P : Nat → fI) (p : Nat) (s t : qS) (nc nl nt N : Nat) : Prop := ∃ (w : Nat) (M : fI) (len : Nat) (f g : Nat → fI), (w ≤ 2 ∧ len ≤ 200) ∧ RXi s p P w M len f ∧ RMi t P w M nc nl nt N len g ∧ SV P w nc nl nt N M ∧ (∀ i, i < len → sR P N f g i) ∧ (∀ i, i < len → ∃ u, u < nt ∧ f 0 i = nI u) ∧ WDv t 3 N P
/-- the rewritten program -/
abbrev rwI (s t : qS) (P2 : Nat → fI) (cl : Nat → Nat) (nc nl nt N : Nat) (th K : Nat → Nat) : Prop := (∃ (bl : Nat → List Nat) (go : Nat → Bool), rwF s t nc nl nt N cl th K bl go) ∧ rpX s P2 ∧ PV P2 nc nl nt N ∧ MB t 1 P2 nc nl nt N
/-- what holds of both between two calls -/
def IVp (s t : qS) (b o e x g y : Bool) (P P2 : Nat → fI) (V : Nat → Nat) (U : Nat → Nat → Nat) (cl : Nat → Nat) (nc nl nt m N : Nat) (th K : Nat → Nat) (bl : Nat → List Nat) : Prop :=
  (tkI s t ∧ kyI s ∧ frS sT s ∧ plI s t ∧ tdR s t) ∧ (s.1 0 9 = bt b ∧ t.1 151 11 = bt b) ∧ (s.1 0 10 = bt o ∧ t.1 151 147 = bt o) ∧ (b = true → PGx s t P V U cl nc nl nt m N th K bl) ∧ (o = true → b = true ∧ rwI s t P2 cl nc nl nt N th K) ∧ flE s t e x g y ∧ (e = true → b = true ∧ (x = true → o = true) ∧ xpI (if x = true then P2 else P) (if x = true then 36 else 11) s t nc nl nt N) ∧ (g = true → b = true ∧ (y = true → o = true) ∧ ruI (if y = true then P2 else P) (if y = true then 36 else 11) s t nc nl nt N)
def IV0 (s t : qS) : Prop := ∃ (b o e x g y : Bool) (P P2 : Nat → fI) (V : Nat → Nat) (U : Nat → Nat → Nat) (cl : Nat → Nat) (nc nl nt m N : Nat) (th K : Nat → Nat) (bl : Nat → List Nat), IVp s t b o e x g y P P2 V U cl nc nl nt m N th K bl
/-- the system between two calls -/
def IV (σ : qS) : Prop := IV0 σ σ ∧ frS sX σ ∧ frS sM σ
section TOPA
variable {en : pN} {d d' k i n N j r v u m nc nl nt key a w p len : Nat} {V cl th K : Nat → Nat} {U : Nat → Nat → Nat} {bl : Nat → List Nat} {go : Nat → Bool} {s s' t t' τ τ' σ σ' : qS} {e x g y b o fw : Bool} {z a1 a2 : Int32} {P P2 : Nat → fI} {X : xT} {F M : fI} {f f' : Nat → fI}
theorem xcF.flw (h : xcF P w nc nl nt p fw X τ F) (t : fxW p P τ τ') : xcF P w nc nl nt p fw X τ' F := by
  obtain ⟨⟨⟨a1, a2, a3, a4, a5, a6, a7, a8, a9⟩, ⟨d1, d2, d3, d4, d5, d6, d7, d8⟩, m1, m2⟩, z1, z2⟩ := h
  obtain ⟨t1, t8, t7, t84, t22⟩ := t
  obtain ⟨b1, b2, b3, b4, b5, b6⟩ := a1
  exact ⟨⟨⟨⟨b1, b2, by rw [t22]; exact b3, fun a ha => by rw [t1 (p + a) (by omega)]; exact b4 a ha, ⟨b5.1, fun j hj => (t8 j hj).1.trans (b5.2 j hj)⟩, fun j hj => (t8 j hj).2.trans (b6 j hj)⟩, ⟨a2.1, a2.2.1, a2.2.2.1, fun i hi => by rw [t1 (71 + 4) (by omega)]; exact a2.2.2.2.1 i hi, a2.2.2.2.2⟩, a3, a4, a5.fr (fun j _ => by rw [t1 83 (by omega)]) (fun i _ => by rw [t1 85 (by omega)]) (fun i _ => by rw [t1 86 (by omega)]) (fun _ _ _ _ => by rw [t84]), by rw [t7 13 (by omega)]; exact a6, fun e he => by rw [t1 90 (by omega)]; exact a7 e he, fun i h1 h2 => by rw [t1 91 (by omega)]; exact a8 i h1 h2, by rw [t1 79 (by omega)]; exact a9⟩, ⟨fun i hi => by rw [t1 92 (by omega)]; exact d1 i hi, fun i hi => by rw [t1 93 (by omega)]; exact d2 i hi, d3.fr (fun j _ => by rw [t1 87 (by omega)]) (fun i _ => by rw [t1 88 (by omega)]) (fun i _ => by rw [t1 89 (by omega)]) (fun _ _ _ _ => by rw [t84]), by rw [t7 14 (by omega)]; exact d4, fun z hz => by rw [t1 77 (by omega)]; exact d5 z hz, by rw [t1 76 (by omega), t1 77 (by omega)]; exact d6, fun c hc => by rw [t1 78 (by omega)]; exact d7 c hc, fun c hc => by rw [t1 80 (by omega)]; exact d8 c hc⟩, fun i h1 h2 => by rw [t1 93 (by omega)]; exact m1 i h1 h2, by rw [t7 18 (by omega)]; exact m2⟩, fun i hi => by rw [t1 92 (by omega)]; exact z1 i hi, by rw [t7 17 (by omega)]; exact z2⟩
theorem EXx.flw (hx : EXx P w nc nl nt n p fw X τ) (t : fxW p P τ τ') : EXx P w nc nl nt n p fw X τ' := by
  obtain ⟨h1, h2, h3⟩ := hx.flat
  exact EXx.of (by rw [t.1 71 (by omega)]; exact xcF.flw h1 t) (by rw [t.1 72 (by omega)]; exact h2) (by rw [t.1 72 (by omega)]; exact h3)
/-- a run is told by its own rows alone -/
theorem RXi.flv (h : RXi τ p P w M len f) (h1 : ∀ c, (p ≤ c ∧ c < p + 25) ∨ c = 113 ∨ (118 ≤ c ∧ c ≤ 123) → τ'.1 c = τ.1 c) (h2 : ∀ j, j < lmN P → τ'.1 8 j = τ.1 8 j ∧ τ'.1 9 j = τ.1 9 j) (h3 : τ'.1 112 8 = τ.1 112 8) (h4 : τ'.1 111 3 = τ.1 111 3 ∧ ¬ τ'.1 111 4 = 0) (h5 : τ'.2.1 124 = τ.2.1 124) (h6 : τ'.2.2 112 7 = τ.2.2 112 7) : RXi τ' p P w M len f := by
  obtain ⟨⟨b1, b2, b3, b4, b5, b6⟩, c1, c2, c3, c4, c5, c6⟩ := h
  exact ⟨⟨b1, b2, h6.trans b3, fun a ha => (h1 (p + a) (by omega)).trans (b4 a ha), ⟨b5.1, fun j hj => (h2 j hj).1.trans (b5.2 j hj)⟩, fun j hj => (h2 j hj).2.trans (b6 j hj)⟩, (h1 113 (by omega)).trans c1, h3.trans c2, h4.1.trans c3, h4.2, fun k hk => (h1 (118 + k) (by omega)).trans (c5 k hk), by rw [h5]; exact c6⟩
theorem RXi.flw (h : RXi τ p P w M len f) (h1 : ∀ c, (p ≤ c ∧ c < p + 25) ∨ c = 113 ∨ (118 ≤ c ∧ c ≤ 123) → τ'.1 c = τ.1 c) (h2 : ∀ j, j < lmN P → τ'.1 8 j = τ.1 8 j ∧ τ'.1 9 j = τ.1 9 j) (h3 : τ'.1 112 8 = τ.1 112 8) (h4 : τ'.1 111 3 = τ.1 111 3 ∧ τ'.1 111 4 = τ.1 111 4) (h5 : τ'.2.1 124 = τ.2.1 124) (h6 : τ'.2.2 112 7 = τ.2.2 112 7) : RXi τ' p P w M len f := by
  obtain ⟨⟨b1, b2, b3, b4, b5, b6⟩, c1, c2, c3, c4, c5, c6⟩ := h
  exact ⟨⟨b1, b2, h6.trans b3, fun a ha => (h1 (p + a) (by omega)).trans (b4 a ha), ⟨b5.1, fun j hj => (h2 j hj).1.trans (b5.2 j hj)⟩, fun j hj => (h2 j hj).2.trans (b6 j hj)⟩, (h1 113 (by omega)).trans c1, h3.trans c2, h4.1.trans c3, by rw [h4.2]; exact c4, fun k hk => (h1 (118 + k) (by omega)).trans (c5 k hk), by rw [h5]; exact c6⟩
theorem RMi.flv (h : RMi σ P w M nc nl nt n len f) (hB : MB σ' 3 P nc nl nt n) (h1 : ∀ c, 191 ≤ c → c ≤ 198 → σ'.1 c = σ.1 c) (h2 : ∀ j, j = 12 ∨ j = 16 ∨ j = 18 ∨ j = 76 ∨ j = 78 → σ'.1 151 j = σ.1 151 j) (h74 : ¬ σ'.1 151 74 = 0) (h3 : σ'.2.1 199 = σ.2.1 199) (h4 : ∀ j, 300 ≤ j → σ'.2.1 180 j = σ.2.1 180 j) : RMi σ' P w M nc nl nt n len f := by
  obtain ⟨-, b2, b3, ⟨b4, b5, b6, b7, b8, b9⟩, b10, b11⟩ := h
  refine ⟨hB, by rw [h1 191 (by decide) (by decide)]; exact b2, fun u hu => by rw [h1 192 (by decide) (by decide)]; exact b3 u hu, ⟨by rw [h2 12 (by omega)]; exact b4, by rw [h2 16 (by omega)]; exact b5, by rw [h2 18 (by omega)]; exact b6, by rw [h2 76 (by omega)]; exact b7, by rw [h2 78 (by omega)]; exact b8, h74⟩, fun k hk => (h1 (193 + k) (by omega) (by omega)).trans (b10 k hk), fun i hi hg => ?_⟩
  rw [h3, h4 _ (by omega)]
  exact b11 i hi hg
theorem RMi.flw (h : RMi σ P w M nc nl nt n len f) (hB : MB σ' 3 P nc nl nt n) (h1 : ∀ c, 191 ≤ c → c ≤ 198 → σ'.1 c = σ.1 c) (h2 : ∀ j, j = 12 ∨ j = 16 ∨ j = 18 ∨ j = 74 ∨ j = 76 ∨ j = 78 → σ'.1 151 j = σ.1 151 j) (h3 : σ'.2.1 199 = σ.2.1 199) (h4 : ∀ j, 300 ≤ j → σ'.2.1 180 j = σ.2.1 180 j) : RMi σ' P w M nc nl nt n len f := by
  obtain ⟨-, b2, b3, ⟨b4, b5, b6, b7, b8, b9⟩, b10, b11⟩ := h
  refine ⟨hB, by rw [h1 191 (by decide) (by decide)]; exact b2, fun u hu => by rw [h1 192 (by decide) (by decide)]; exact b3 u hu, ⟨by rw [h2 12 (by omega)]; exact b4, by rw [h2 16 (by omega)]; exact b5, by rw [h2 18 (by omega)]; exact b6, by rw [h2 76 (by omega)]; exact b7, by rw [h2 78 (by omega)]; exact b8, by rw [h2 74 (by omega)]; exact b9⟩, fun k hk => (h1 (193 + k) (by omega) (by omega)).trans (b10 k hk), fun i hi hg => ?_⟩
  rw [h3, h4 _ (by omega)]
  exact b11 i hi hg
theorem xtI_fr (h : xtI P t N) (hN : N ≤ 100) (h1 : ∀ j, 200 ≤ j → j < 300 → t'.1 175 j = t.1 175 j) (h2 : ∀ j, 200 ≤ j → j < 300 → t'.2.1 180 j = t.2.1 180 j) : xtI P t' N := ⟨fun i hi => by rw [h1 _ (by omega) (by omega)]; exact h.1 i hi, fun l hl hk => by rw [h2 _ (by omega) (by omega)]; exact h.2 l hl hk⟩
theorem xtI_eq (h : xtI P t N) (h1 : t'.1 175 = t.1 175) (h2 : t'.2.1 180 = t.2.1 180) : xtI P t' N := ⟨fun i hi => by rw [h1]; exact h.1 i hi, fun l hl hk => by rw [h2]; exact h.2 l hl hk⟩
/-- the class's part, the model's part -/
theorem IV_fr (h : IV0 s t) (hs : ∀ a, a < 151 → s'.1 a = s.1 a ∧ s'.2.1 a = s.2.1 a ∧ s'.2.2 a = s.2.2 a) (ht : ∀ a, 151 ≤ a → t'.1 a = t.1 a ∧ t'.2.1 a = t.2.1 a ∧ t'.2.2 a = t.2.2 a) : IV0 s' t' := by
  have sI : ∀ a, a < 151 → s'.1 a = s.1 a := fun a ha => (hs a ha).1
  have sJ : ∀ a, a < 151 → s'.2.1 a = s.2.1 a := fun a ha => (hs a ha).2.1
  have sR' : ∀ a, a < 151 → s'.2.2 a = s.2.2 a := fun a ha => (hs a ha).2.2
  have tI : ∀ a, 151 ≤ a → t'.1 a = t.1 a := fun a ha => (ht a ha).1
  have tJ : ∀ a, 151 ≤ a → t'.2.1 a = t.2.1 a := fun a ha => (ht a ha).2.1
  obtain ⟨b, o, e, x, g, y, P, P2, V, U, cl, nc, nl, nt, m, N, th, K, bl, ⟨⟨n, B, h1, h2⟩, ⟨h3, h4⟩, h5, ⟨⟨h6, h7⟩, ⟨h8, h9⟩, h10⟩, ⟨Mt, h11, h12⟩⟩, h13, h14, h15, h16, h17, h18, h19⟩ := h
  have mbv : ∀ (v : Nat) (Q : Nat → fI), MB t v Q nc nl nt N → MB t' v Q nc nl nt N := fun v Q hB => MB_v hB (fun c hc => tI c (by omega)) (fun j _ => by rw [tI 161 (by decide), tI 162 (by decide)]; exact ⟨rfl, rfl⟩) (fun c c1 _ _ _ => by rw [tI c (by omega)]) (fun _ _ => by rw [tI 181 (by decide)])
  have pq : ∀ z : Bool, ((if z = true then 36 else 11) = 11 ∨ (if z = true then 36 else 11) = 36) := fun z => by cases z <;> simp
  refine ⟨b, o, e, x, g, y, P, P2, V, U, cl, nc, nl, nt, m, N, th, K, bl, ⟨⟨n, B, ?_, ?_⟩, ⟨?_, ?_⟩, fun a k ha hk => ?_, ⟨⟨?_, ?_⟩, ⟨?_, ?_⟩, ?_⟩, ⟨Mt, ?_, ?_⟩⟩, ?_, ?_, fun hb => ?_, fun ho => ?_, ?_, fun he => ?_, fun hg => ?_⟩
  · unfold TX; rw [sI 1 (by decide), sI 2 (by decide)]; exact h1
  · unfold MX; rw [tI 151 (by decide), tI 152 (by decide)]; exact h2
  · rw [sJ 3 (by decide)]; exact h3
  · rw [sJ 66 (by decide)]; exact h4
  · rw [sR' a (by have := ha.2; omega)] at hk ⊢; exact h5 a k ha hk
  · rw [sI 65 (by decide), tI 151 (by decide)]; exact h6
  · rw [sI 65 (by decide), tI 151 (by decide)]; exact h7
  · rw [sI 0 (by decide), tI 151 (by decide)]; exact h8
  · rw [sI 0 (by decide), tI 151 (by decide)]; exact h9
  · rw [sI 103 (by decide)]; exact h10
  · unfold tdI; rw [sI 125 (by decide), sI 150 (by decide)]; exact h11
  · unfold tmI; rw [tI 151 (by decide), tI 208 (by decide)]; exact h12
  · rw [sI 0 (by decide), tI 151 (by decide)]; exact h13
  · rw [sI 0 (by decide), tI 151 (by decide)]; exact h14
  · exact PGx_fr (h15 hb) ⟨fun c _ c2 => sI c (by omega), fun j _ => by rw [sI 8 (by decide), sI 9 (by decide)]; exact ⟨rfl, rfl⟩, sI 68 (by decide), fun c hc => sJ c (by omega)⟩ ⟨fun c hc => tI c (by omega), fun j _ => by rw [tI 161 (by decide), tI 162 (by decide)]; exact ⟨rfl, rfl⟩, fun c c1 _ j _ => by rw [tI c (by omega)], fun j _ => by rw [tI 181 (by decide)], fun j _ => by rw [tI 151 (by decide)], fun c hc => tJ c (by omega), fun j _ => by rw [tJ 180 (by decide)]⟩
  · obtain ⟨g1, ⟨bl', go, g2⟩, ⟨g3, g4, g5, g6⟩, g7, g8⟩ := h16 ho
    exact ⟨g1, ⟨bl', go, rwF_fr g2 (fun c hc => sI c (by omega)) ⟨fun c hc => tI c (by omega), fun j _ => by rw [tI 161 (by decide), tI 162 (by decide)]; exact ⟨rfl, rfl⟩, fun c c1 _ j _ _ => by rw [tI c (by omega)], fun j _ _ => by rw [tI 181 (by decide)], by rw [tI 151 (by decide)], fun j _ _ => by rw [tJ 180 (by decide)]⟩⟩, ⟨fun a ha => (sI (36 + a) (by omega)).trans (g3 a ha), g4, (sI 8 (by decide)).trans g5, (sI 9 (by decide)).trans g6⟩, g7, mbv 1 P2 g8⟩
  · unfold flE
    rw [sI 70 (by decide), sI 0 (by decide), sI 111 (by decide), tI 151 (by decide)]
    exact h17
  · obtain ⟨g1, g2, w, fw, X, w1, w2, w3, w4, w5, w6, w7, w8⟩ := h18 he
    have hp := pq x
    refine ⟨g1, g2, w, fw, X, w1, w2.fl ⟨fun c hc => sI c (by omega), fun j _ => by rw [sI 70 (by decide)], sJ 84 (by decide), by rw [sR' 71 (by decide)]⟩, w3.fl (mbv 2 _ w3.flat.1.1) ⟨fun c c1 _ => tI c (by omega), fun j _ => by rw [tI 151 (by decide)]⟩, w4, w5, ⟨w6.1, xtI_eq w6.2 (tI 175 (by decide)) (tJ 180 (by decide))⟩, ?_, ?_⟩
    · unfold swx; rw [sI 70 (by decide), sI 96 (by decide)]; exact w7
    · unfold swm; rw [tI 151 (by decide), tI 229 (by decide)]; exact w8
  · obtain ⟨g1, g2, w, M, len, f, f', w1, w2, w3, w4, w5, w6, w7⟩ := h19 hg
    have hp := pq y
    refine ⟨g1, g2, w, M, len, f, f', w1, RXi.flw w2 (fun c hc => sI c (by omega)) (fun j _ => by rw [sI 8 (by decide), sI 9 (by decide)]; exact ⟨rfl, rfl⟩) (by rw [sI 112 (by decide)]) ⟨by rw [sI 111 (by decide)], by rw [sI 111 (by decide)]⟩ (sJ 124 (by decide)) (by rw [sR' 112 (by decide)]), RMi.flw w3 (mbv 3 _ w3.1) (fun c c1 _ => tI c (by omega)) (fun j _ => by rw [tI 151 (by decide)]) (tJ 199 (by decide)) (fun j _ => by rw [tJ 180 (by decide)]), w4, w5, w6, fun l hl hk => ?_⟩
    rw [tJ 180 (by decide)]
    exact w7 l hl hk
/-- a call of the class, then one of the model -/
theorem step_al {q1 q2 D1 D2 : Nat} {as1 as2 : List Value} (h : IV σ) (hf1 : frT sX as1) (hf2 : frT sM as2) (hal : ∀ s t : qS, IV0 s t → ∃ (v : Int32) (s' t' : qS), qev en D1 q1 as1 s = some (some (.int v), s') ∧ qev en D2 q2 as2 t = some (some (.int v), t') ∧ IV0 s' t') : ∃ (v : Int32) (σ1 σ2 : qS), qev en D1 q1 as1 σ = some (some (.int v), σ1) ∧ qev en D2 q2 as2 σ1 = some (some (.int v), σ2) ∧ IV σ2 := by
  obtain ⟨h1, h2, h3⟩ := h
  obtain ⟨v1, σ1, -, e1, -, -⟩ := hal σ σ h1
  obtain ⟨⟨f1, k1⟩, -⟩ := fr_ev frC_X D1 q1 as1 σ σ1 _ e1 hf1 h2
  have t1 : IV0 σ σ1 := IV_fr h1 (fun _ _ => ⟨rfl, rfl, rfl⟩) (fun a ha => k1 a (show ¬ a < 151 by omega))
  obtain ⟨v, σ1', σ2, e2, e3, i2⟩ := hal σ σ1 t1
  have ee : (some (.int v1 : Value), σ1) = (some (.int v), σ1') := Option.some.inj (e1.symm.trans e2)
  have ev : v1 = v := by
    have := congrArg Prod.fst ee
    injection this with this
    injection this
  have es : σ1' = σ1 := (congrArg Prod.snd ee).symm
  rw [es] at i2
  have m1 : frS sM σ1 := fun a k ha hk => by
    have e := (k1 a (show ¬ a < 151 from Nat.not_lt.mpr ha)).2.2
    rw [e] at hk ⊢
    exact h3 a k ha hk
  obtain ⟨⟨f2, k2⟩, -⟩ := fr_ev frC_M D2 q2 as2 σ1 σ2 _ e3 hf2 m1
  have t2 : IV0 σ2 σ2 := IV_fr i2 (fun a ha => k2 a (show ¬ 151 ≤ a by omega)) (fun _ _ => ⟨rfl, rfl, rfl⟩)
  refine ⟨v, σ1, σ2, by rw [← ev]; exact e1, e3, t2, fun a k ha hk => ?_, f2⟩
  have e := (k2 a (show ¬ 151 ≤ a from Nat.not_le.mpr ha)).2.2
  rw [e] at hk ⊢
  exact f1 a k ha hk
end TOPA
