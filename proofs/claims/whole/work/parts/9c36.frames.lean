/-! THE TOP: what leaves the programs of both as they are. -/
/-- what the program that was read depends on -/
abbrev pfX (s s' : qS) : Prop := (∀ c, 11 ≤ c → c ≤ 35 → s'.1 c = s.1 c) ∧ (∀ j, j < 400 → s'.1 8 j = s.1 8 j ∧ s'.1 9 j = s.1 9 j) ∧ s'.1 68 = s.1 68 ∧ ∀ c, c = 12 ∨ c = 13 ∨ c = 67 → s'.2.1 c = s.2.1 c
abbrev pfM (t t' : qS) : Prop := (∀ c, 153 ≤ c ∧ c ≤ 159 ∨ c = 183 → t'.1 c = t.1 c) ∧ (∀ j, j < 400 → t'.1 161 j = t.1 161 j ∧ t'.1 162 j = t.1 162 j) ∧ (∀ c, 164 ≤ c → c ≤ 179 → ∀ j, j < 100 → t'.1 c j = t.1 c j) ∧ (∀ j, j < 4 → t'.1 181 j = t.1 181 j) ∧ (∀ j, j = 12 ∨ j = 16 ∨ j = 18 ∨ j = 27 ∨ j = 32 → t'.1 151 j = t.1 151 j) ∧ (∀ c, c = 153 ∨ c = 156 ∨ c = 157 ∨ c = 160 ∨ c = 182 → t'.2.1 c = t.2.1 c) ∧ ∀ j, j < 100 → t'.2.1 180 j = t.2.1 180 j
/-- what the rewritten one depends on -/
abbrev rfX (s s' : qS) : Prop := ∀ c, c = 8 ∨ c = 9 ∨ 36 ≤ c ∧ c ≤ 60 → s'.1 c = s.1 c
abbrev rfM (t t' : qS) : Prop := (∀ c, c = 154 ∨ c = 155 ∨ c = 158 → t'.1 c = t.1 c) ∧ (∀ j, j < 400 → t'.1 161 j = t.1 161 j ∧ t'.1 162 j = t.1 162 j) ∧ (∀ c, 164 ≤ c → c ≤ 179 → ∀ j, 100 ≤ j → j < 200 → t'.1 c j = t.1 c j) ∧ (∀ j, 4 ≤ j → j < 8 → t'.1 181 j = t.1 181 j) ∧ t'.1 151 32 = t.1 151 32 ∧ ∀ j, 100 ≤ j → j < 200 → t'.2.1 180 j = t.2.1 180 j
section FRT
variable {en : pN} {d d' k i n N j r v u m nc nl nt key a w : Nat} {V cl th K : Nat → Nat} {U : Nat → Nat → Nat} {bl : Nat → List Nat} {go : Nat → Bool} {s s' s1 t t' t1 : qS} {e x g y : Bool} {z A E A' E' : Int32} {P : Nat → fI}
theorem MB_v (h : MB t v P nc nl nt N) (h1 : ∀ c, c = 154 ∨ c = 155 ∨ c = 158 → t'.1 c = t.1 c) (h2 : ∀ j, j < 400 → t'.1 161 j = t.1 161 j ∧ t'.1 162 j = t.1 162 j) (h3 : ∀ c, 164 ≤ c → c ≤ 179 → ∀ i, i < N → t'.1 c (100 * v + i) = t.1 c (100 * v + i)) (h4 : ∀ u, u < nt → t'.1 181 (4 * v + u) = t.1 181 (4 * v + u)) : MB t' v P nc nl nt N := by
  have hx : ∀ u r i A' E', exM t P u r i A' E' → exM t' P u r i A' E' := fun u r i A' E' h => by
    obtain ⟨a, e, a1, a2, a3, a4, a5⟩ := h
    refine ⟨a, e, a1, a2, a3, a4, ?_⟩
    rcases a5 with a5 | ⟨b1, b2, b3, b4, b5⟩ | a5
    · exact Or.inl a5
    · refine Or.inr (Or.inl ⟨b1, b2, b3, fun j j1 j2 k hk hk2 => ?_, fun j j1 j2 => by rw [(h2 j (by omega)).1]; exact b5 j j1 j2⟩)
      rw [Nat.zero_add, (h2 j (by omega)).1, (h2 j (by omega)).2]
      have := b4 j j1 j2 k hk hk2
      rw [Nat.zero_add] at this
      exact this
    · exact Or.inr (Or.inr a5)
  obtain ⟨h0, hl, hc, ht⟩ := h
  refine ⟨h0, fun i hi => ?_, fun c hc' => ?_, fun u hu => ?_⟩
  · obtain ⟨a1, a2, a3, a4, a5, a6, ⟨u, a7, a8, a9, a10⟩, a11, a12, a13⟩ := hl i hi
    have g : ∀ c, 164 ≤ c → c ≤ 179 → t'.1 c (100 * v + i) = t.1 c (100 * v + i) := fun c c1 c2 => h3 c c1 c2 i hi
    refine ⟨by rw [g 164 (by decide) (by decide)]; exact a1, by rw [g 166 (by decide) (by decide)]; exact a2, by rw [g 167 (by decide) (by decide)]; exact a3, fun z => ?_, fun z => by rw [g 172 (by decide) (by decide)]; exact a5 z, fun z => by rw [g 174 (by decide) (by decide)]; exact a6 z, ⟨u, a7, a8, ?_, ?_⟩, a11, a12, fun q hq => by rw [g q (by omega) (by omega)]; exact a13 q hq⟩
    · rw [g 172 (by decide) (by decide), g 173 (by decide) (by decide), g 174 (by decide) (by decide)]; exact a4 z
    · rw [g 176 (by decide) (by decide), g 177 (by decide) (by decide)]; exact hx _ _ _ _ _ a9
    · rw [g 178 (by decide) (by decide), g 179 (by decide) (by decide)]; exact hx _ _ _ _ _ a10
  · rw [h1 154 (by omega), h1 155 (by omega)]; exact hc c hc'
  · rw [h1 158 (by omega), h4 u hu]; exact ht u hu
theorem exA_v (h : exA s t u m A E A' E') (h1 : ∀ j, j < 400 → s'.1 8 j = s.1 8 j ∧ s'.1 9 j = s.1 9 j) (h2 : ∀ j, j < 400 → t'.1 161 j = t.1 161 j ∧ t'.1 162 j = t.1 162 j) : exA s' t' u m A E A' E' := by
  obtain ⟨a, e, y1, y2, h3 | ⟨h3, h4, h4', h5, h6, h7, h8⟩⟩ := h
  · exact ⟨a, e, y1, y2, Or.inl h3⟩
  · exact ⟨a, e, y1, y2, Or.inr ⟨h3, h4, h4', h5, h6, fun j j1 j2 => nd1_eq (h7 j j1 j2) (h1 j (by omega)).1 (h1 j (by omega)).2 (by rw [Nat.zero_add]; exact (h2 j (by omega)).1) (by rw [Nat.zero_add]; exact (h2 j (by omega)).2), gw_ag h8 (fun j _ j2 => h1 j (by omega))⟩⟩
theorem lnB_v (h : lnB s t nc nl nt m cl th i) (hi : i < 100) (f : pfX s s') (g : pfM t t') : lnB s' t' nc nl nt m cl th i := by
  obtain ⟨k, ⟨a1, a2, a3⟩, ⟨a4, a5, a6⟩, a7, ⟨a8, a9⟩, ⟨a10, a11⟩, a12, ⟨a13, a14⟩, a15, a16, a17, a18, a19, a20⟩ := h
  have gx : ∀ a, 11 ≤ a → a ≤ 35 → s'.1 a = s.1 a := f.1
  have gm : ∀ a, 164 ≤ a → a ≤ 179 → t'.1 a i = t.1 a i := fun a q1 q2 => g.2.2.1 a q1 q2 i hi
  refine ⟨k, ⟨a1, by rw [gx 18 (by decide) (by decide)]; exact a2, by rw [gm 164 (by decide) (by decide)]; exact a3⟩, ⟨a4, by rw [gx 19 (by decide) (by decide)]; exact a5, by rw [gm 165 (by decide) (by decide)]; exact a6⟩, by rw [gm 166 (by decide) (by decide), gx 20 (by decide) (by decide)]; exact a7, by rw [gx 20 (by decide) (by decide)]; exact ⟨a8, a9⟩, ⟨by rw [gm 167 (by decide) (by decide), gx 21 (by decide) (by decide)]; exact a10, by rw [gx 21 (by decide) (by decide)]; exact a11⟩, by rw [gm 168 (by decide) (by decide), gx 22 (by decide) (by decide)]; exact a12, ⟨by rw [gx 35 (by decide) (by decide)]; exact a13, by rw [gm 175 (by decide) (by decide)]; exact a14⟩, ?_, ?_, ?_, ?_, ?_, ?_⟩
  · rw [gx 23 (by decide) (by decide), gx 24 (by decide) (by decide), gm 176 (by decide) (by decide), gm 177 (by decide) (by decide)]
    exact exA_v a15 f.2.1 g.2.1
  · rw [gx 25 (by decide) (by decide), gx 26 (by decide) (by decide), gm 178 (by decide) (by decide), gm 179 (by decide) (by decide)]
    exact exA_v a16 f.2.1 g.2.1
  · rw [gx 23 (by decide) (by decide), gx 24 (by decide) (by decide)]; exact a17
  · rw [gx 25 (by decide) (by decide), gx 26 (by decide) (by decide)]; exact a18
  · rw [gx 27 (by decide) (by decide), g.2.2.2.2.2.2 i hi]; exact a19
  · rw [f.2.2.2 67 (by omega), g.2.2.2.2.2.1 182 (by omega), f.2.2.1, g.1 183 (by omega)]; exact a20
theorem nmR_v (h : nmR s t V U cl nc nl nt) (f : pfX s s') (g : pfM t t') : nmR s' t' V U cl nc nl nt := by
  unfold nmR
  rw [f.1 11 (by decide) (by decide), f.1 14 (by decide) (by decide), f.2.2.2 12 (by omega), f.2.2.2 13 (by omega), g.1 159 (by omega), g.2.2.2.2.1 12 (by omega), g.2.2.2.2.1 16 (by omega), g.2.2.2.2.1 18 (by omega), g.2.2.2.2.2.1 153 (by omega), g.2.2.2.2.2.1 156 (by omega), g.2.2.2.2.2.1 157 (by omega), g.2.2.2.2.2.1 160 (by omega)]
  exact h
theorem lnG_v (h : lnG s t nt N K th bl) (hN : N ≤ 100) (hnt : nt ≤ 4) (f : pfX s s') (g : pfM t t') : lnG s' t' nt N K th bl := by
  obtain ⟨h1, h2, h3, h4, h5⟩ := h
  have gm : ∀ a, 164 ≤ a → a ≤ 179 → ∀ i, i < N → t'.1 a i = t.1 a i := fun a q1 q2 i hi => g.2.2.1 a q1 q2 i (by omega)
  refine ⟨fun k hk => ?_, h2, h3, h4, fun i hi => ?_⟩
  · obtain ⟨b1, b2⟩ := h1 k hk
    rw [f.1 28 (by decide) (by decide), f.1 16 (by decide) (by decide), f.1 31 (by decide) (by decide), f.1 32 (by decide) (by decide)]
    rw [hdK_cg (f' := t'.1 181) (g' := t'.1 172) (h2' := t'.1 173) (f := t.1 181) (g := t.1 172) (h2 := t.1 173) (fun u hu => g.2.2.2.1 u (by omega)) (gm 172 (by decide) (by decide)) (gm 173 (by decide) (by decide)) hk hnt]
    exact ⟨b1, lkd_cg _ _ b2 (fun a ha => gm 171 (by decide) (by decide) a (h2 k a ha).1)⟩
  · rw [f.1 19 (by decide) (by decide), f.1 29 (by decide) (by decide), f.1 30 (by decide) (by decide), gm 169 (by decide) (by decide) i hi, gm 170 (by decide) (by decide) i hi]
    exact h5 i hi
/-- the program stays -/
theorem PGx_fr (h : PGx s t P V U cl nc nl nt m N th K bl) (f : pfX s s') (g : pfM t t') : PGx s' t' P V U cl nc nl nt m N th K bl := by
  obtain ⟨⟨h1, ⟨h2, h3, hN, h4⟩, h5, h6, h7, h8, h9⟩, h10, ⟨h11, h12⟩, ⟨h13, h14, h15⟩, h16, h17⟩ := h
  have hnt : nt ≤ 4 := h1.1.2.2
  refine ⟨⟨nmR_v h1 f g, ⟨by rw [f.1 11 (by decide) (by decide)]; exact h2, by rw [g.2.2.2.2.1 32 (by omega)]; exact h3, hN, fun p p1 p2 p3 => by rw [g.2.2.1 164 (by decide) (by decide) p (by omega)]; exact h4 p p1 p2 p3⟩, h5, fun i hi => lnB_v (h6 i hi) (by omega) f g, lnG_v h7 hN hnt f g, fun c hc => ?_, fun u hu => ?_⟩, fun i hi => ?_, ⟨by rw [f.1 11 (by decide) (by decide)]; exact h11, by rw [g.2.2.2.2.1 27 (by omega)]; exact h12⟩, ⟨fun a ha => (f.1 (11 + a) (by omega) (by omega)).trans (h13 a ha), h14, fun j hj => ⟨(f.2.1 j hj).1.trans (h15 j hj).1, (f.2.1 j hj).2.trans (h15 j hj).2⟩⟩, h16, ?_⟩
  · rw [g.1 154 (by omega), g.1 155 (by omega), f.1 15 (by decide) (by decide), f.1 11 (by decide) (by decide)]
    exact h8 c hc
  · rw [g.1 158 (by omega), f.1 11 (by decide) (by decide)]
    exact h9 u hu
  · rw [f.1 18 (by decide) (by decide), f.1 20 (by decide) (by decide)]
    exact h10 i hi
  · exact MB_v h17 (fun c hc => g.1 c (by omega)) g.2.1 (fun c c1 c2 i hi => by rw [show 100 * 0 + i = i by omega]; exact g.2.2.1 c c1 c2 i (by omega)) (fun u hu => by rw [show 4 * 0 + u = u by omega]; exact g.2.2.2.1 u (by omega))
theorem exF_v (h : exF m s t u z E A' E') (h1 : s'.1 8 = s.1 8) (h2 : s'.1 9 = s.1 9) (g : ∀ j, j < 400 → t'.1 161 j = t.1 161 j ∧ t'.1 162 j = t.1 162 j) : exF m s' t' u z E A' E' := by
  unfold exF
  rw [h1, h2]
  obtain ⟨a, e, y1, y2, y3, y4, y5, y6⟩ := h
  refine ⟨a, e, y1, y2, y3, y4, y5, ?_⟩
  rcases y6 with h6 | ⟨y1, y2, y3, y4, y5⟩ | h6
  · exact Or.inl h6
  · refine Or.inr (Or.inl ⟨y1, y2, y3, fun j j1 j2 k hk hk2 => ?_, fun j j1 j2 => by rw [(g j (by omega)).1]; exact y5 j j1 j2⟩)
    have := y4 j j1 j2 k hk hk2
    rw [Nat.zero_add] at this ⊢
    rw [(g j (by omega)).1, (g j (by omega)).2]
    exact this
  · exact Or.inr (Or.inr h6)
theorem rd_eq (f : rfX s s') : rdP s' 36 = rdP s 36 ∨ ∀ a, a < 28 → rdP s' 36 a = rdP s 36 a := Or.inr fun a ha => by
  unfold rdP
  by_cases q1 : a = 25
  · rw [if_pos q1, if_pos q1]; exact f 8 (by omega)
  · rw [if_neg q1, if_neg q1]
    by_cases q2 : a = 26
    · rw [if_pos q2, if_pos q2]; exact f 9 (by omega)
    · rw [if_neg q2, if_neg q2]
      by_cases q3 : a = 27
      · rw [if_pos q3, if_pos q3]
      · rw [if_neg q3, if_neg q3]
        exact f (36 + a) (by omega)
/-- the rewritten one stays -/
theorem rwF_fr (h : rwF s t nc nl nt N cl th K bl go) (f : rfX s s') (g : rfM t t') : rwF s' t' nc nl nt N cl th K bl go := by
  have gx : ∀ c, c < 25 → s'.1 (36 + c) = s.1 (36 + c) := fun c hc => f (36 + c) (by omega)
  have e8 := f 8 (by omega)
  have e9 := f 9 (by omega)
  obtain ⟨h1, h2, h3, h4⟩ := h
  have hN : N ≤ 100 := h1.1.2.2.2.2
  have hnt : nt ≤ 4 := h1.1.2.2.1.2
  have gm : ∀ a, 164 ≤ a → a ≤ 179 → ∀ i, i < N → t'.1 a (100 + i) = t.1 a (100 + i) := fun a q1 q2 i hi => g.2.2.1 a q1 q2 (100 + i) (by omega) (by omega)
  refine ⟨cnF_ch h1 (fun c hc => f c (by omega)) (fun c hc => g.1 c hc), fun i hi => ?_, ?_, g.2.2.2.2.1.trans h4⟩
  · obtain ⟨⟨k, g1, g2, g3, g4, g5, g6, g7, g8, g9⟩, g10⟩ := h2 i hi
    have z1 : 100 * 1 + i = 100 + i := by omega
    rw [z1] at g1 g3 g5 g6 g7
    refine ⟨⟨k, ?_⟩, ?_⟩
    · rw [z1, gx 7 (by decide), gx 8 (by decide), gx 9 (by decide), gx 10 (by decide), gx 12 (by decide), gx 13 (by decide), gx 14 (by decide), gx 15 (by decide), gm 164 (by decide) (by decide) i hi, gm 166 (by decide) (by decide) i hi, gm 167 (by decide) (by decide) i hi, gm 176 (by decide) (by decide) i hi, gm 177 (by decide) (by decide) i hi, gm 178 (by decide) (by decide) i hi, gm 179 (by decide) (by decide) i hi]
      exact ⟨g1, g2, g3, g4, g5, exF_v g6 e8 e9 g.2.1, exF_v g7 e8 e9 g.2.1, g8, g9⟩
    · unfold rgF
      rw [f 43 (by omega), f 48 (by omega), f 49 (by omega), f 51 (by omega), f 52 (by omega), g.2.2.2.2.2 (100 + i) (by omega) (by omega)]
      exact g10
  · obtain ⟨q1, q2, q3, q4, q5, q6, q7⟩ := h3
    refine ⟨fun k hk => ?_, q2, q3, q4, fun j hj => ?_, fun j hj => ?_, fun p hp hne => by rw [gm 164 (by decide) (by decide) p hp]; exact q7 p hp hne⟩
    · obtain ⟨b1, b2⟩ := q1 k hk
      rw [f 53 (by omega), f 41 (by omega), f 56 (by omega), f 57 (by omega)]
      rw [hdK_cg (f' := fun j => t'.1 181 (4 + j)) (g' := fun j => t'.1 172 (100 + j)) (h2' := fun j => t'.1 173 (100 + j)) (f := fun j => t.1 181 (4 + j)) (g := fun j => t.1 172 (100 + j)) (h2 := fun j => t.1 173 (100 + j)) (fun u hu => g.2.2.2.1 (4 + u) (by omega) (by omega)) (gm 172 (by decide) (by decide)) (gm 173 (by decide) (by decide)) hk hnt]
      exact ⟨b1, lkd_cg _ _ b2 (fun a ha => gm 171 (by decide) (by decide) a (q2 k a ha).1)⟩
    · rw [f 44 (by omega), f 54 (by omega), f 55 (by omega), gm 165 (by decide) (by decide) j hj, gm 169 (by decide) (by decide) j hj, gm 170 (by decide) (by decide) j hj]
      exact q5 j hj
    · rw [f 60 (by omega), f 53 (by omega), gm 175 (by decide) (by decide) j hj, gm 171 (by decide) (by decide) j hj]
      exact q6 j hj
end FRT
