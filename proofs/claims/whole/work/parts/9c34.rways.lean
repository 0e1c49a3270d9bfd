/-! REWRITINGS: the ways of the rewritten program, on both sides. -/
section RWY
variable {en : pN} {d d' k i n N j r v u m nc nl nt key a x : Nat} {cl th K : Nat → Nat} {bl : Nat → List Nat} {go : Nat → Bool} {s s' t t' : qS}
theorem TG_tr (hG : TG s t nt N K th bl go) (hN : N ≤ 100) (hnt : nt ≤ 4) (hkd : ∀ i, i < N → ∃ k, k < 19 ∧ s.1 (36 + 7) i = nI k ∧ t.1 164 (100 * 1 + i) = nI k) : trF 36 1 s t nt N th := by
  obtain ⟨hG1, hG2, hG3, -, hG5, hG6, hG7⟩ := id hG
  have z1 : ∀ i, 100 * 1 + i = 100 + i := fun i => by omega
  have same : ∀ k i j, i ∈ bl k → j ∈ bl k → th j = th i := fun k i j hi hj => by
    obtain ⟨a1, a2, -⟩ := hG2 k i hi
    obtain ⟨b1, b2, -⟩ := hG2 k j hj
    obtain ⟨⟨a3, -⟩, a4⟩ := hG5 i a1
    obtain ⟨⟨b3, -⟩, b4⟩ := hG5 j b1
    rcases a4 with ⟨a4, -⟩ | ⟨p, b, p1, p2, p3, -, -, p4, -⟩ <;> rcases b4 with ⟨b4, -⟩ | ⟨p', b', q1, q2, q3, -, -, q4, -⟩
    · omega
    · omega
    · omega
    · have : p = p' := by omega
      rw [← p4, ← q4, this]
  have nxt : ∀ i, i < N → (s.1 53 i = -1 ∧ t.1 171 (100 + i) = -2) ∨ ∃ j, j < N ∧ th j = th i ∧ s.1 53 i = nI j ∧ t.1 171 (100 + i) = nI j := fun i hi => by
    cases hg : go i with
    | true => exact Or.inl ((hG6 i hi).2.2 hg)
    | false =>
      obtain ⟨a1, a2⟩ := hG1 (K i) (TG_ky hG hi)
      rcases (lkd_nx _ _ _ a1 a2).1 i (hG3 i hi hg) with h | ⟨j, h1, h2⟩
      · exact Or.inl h
      · exact Or.inr ⟨j, (hG2 _ j h1).1, same (K i) i j (hG3 i hi hg) h1, h2⟩
  have hdd : ∀ k, kyV nt N k → (bl k = [] ∧ hdK (s.1 41) (s.1 56) (s.1 57) k = -1 ∧ hdK (fun j => t.1 181 (4 + j)) (fun j => t.1 172 (100 + j)) (fun j => t.1 173 (100 + j)) k = -2) ∨ ∃ j, j ∈ bl k ∧ hdK (s.1 41) (s.1 56) (s.1 57) k = nI j ∧ hdK (fun j => t.1 181 (4 + j)) (fun j => t.1 172 (100 + j)) (fun j => t.1 173 (100 + j)) k = nI j := fun k hk => by
    obtain ⟨a1, a2⟩ := hG1 k hk
    exact (lkd_nx _ _ _ a1 a2).2
  have chi : ∀ i, i < N → (s.1 56 i = -1 ∧ t.1 172 (100 + i) = -2) ∨ ∃ j, j ∈ bl (4 + 2 * i) ∧ s.1 56 i = nI j ∧ t.1 172 (100 + i) = nI j := fun i hi => by
    have := hdd (4 + 2 * i) (Or.inr ⟨by omega, by omega⟩)
    rw [hdK_c, hdK_c] at this
    rcases this with ⟨-, h⟩ | h
    · exact Or.inl h
    · exact Or.inr h
  have oth : ∀ i, i < N → (bl (5 + 2 * i) = [] ∧ s.1 57 i = -1 ∧ t.1 173 (100 + i) = -2) ∨ ∃ j, j ∈ bl (5 + 2 * i) ∧ s.1 57 i = nI j ∧ t.1 173 (100 + i) = nI j := fun i hi => by
    have := hdd (5 + 2 * i) (Or.inr ⟨by omega, by omega⟩)
    rw [hdK_o, hdK_o] at this
    exact this
  have hea : ∀ u, u < nt → (s.1 41 u = -1 ∧ t.1 181 (4 + u) = -2) ∨ ∃ j, j ∈ bl u ∧ s.1 41 u = nI j ∧ t.1 181 (4 + u) = nI j := fun u hu => by
    have := hdd u (Or.inl hu)
    rw [hdK_t (by omega), hdK_t (by omega)] at this
    rcases this with ⟨-, h⟩ | h
    · exact Or.inl h
    · exact Or.inr h
  have inn : ∀ i j b, b < 2 → j ∈ bl (4 + 2 * i + b) → j < N ∧ th j = th i := fun i j b hb hj => by
    obtain ⟨a1, a2, -⟩ := hG2 _ j hj
    obtain ⟨⟨a3, -⟩, ⟨a4, -⟩ | ⟨p, b', p1, p2, p3, -, -, p4, -⟩⟩ := hG5 j a1
    · omega
    · have : p = i := by omega
      exact ⟨a1, by rw [← p4, this]⟩
  have one : ∀ a b, a < N → b < N → nI a = nI b → a = b := fun a b ha hb h => by rw [n_EQ (by omega) (by omega)] at h; exact h
  have no1 : ∀ a, a < N → ¬ (-1 : Int32) = nI a := fun a ha h => (n_1m (by omega)).mp h
  refine ⟨fun i hi => ?_, fun i j a hi hj ha he => ?_, fun u hu => ⟨?_, fun j hj he => ?_⟩, fun i hi hk => ?_⟩
  · refine ⟨hkd i hi, ?_, ?_, ?_, ?_⟩
    · rw [z1]
      rcases nxt i hi with h | ⟨j, h1, -, h2⟩
      · exact Or.inl h
      · exact Or.inr ⟨j, h1, h2⟩
    · rw [z1]
      obtain ⟨-, ⟨-, h1, h2⟩ | ⟨p, b, p1, p2, p3, p4, p5, -⟩⟩ := hG5 i hi
      · exact Or.inl ⟨h1, h2⟩
      · exact Or.inr ⟨p, p1, p4, p5⟩
    · rw [z1]
      rcases chi i hi with h | ⟨j, h1, h2⟩
      · exact Or.inl h
      · exact Or.inr ⟨j, (hG2 _ j h1).1, h2⟩
    · rw [z1]
      rcases oth i hi with ⟨-, h⟩ | ⟨j, h1, h2⟩
      · exact Or.inl h
      · exact Or.inr ⟨j, (hG2 _ j h1).1, h2⟩
  · rcases ha with rfl | rfl | rfl | rfl
    · have he' : s.1 53 i = nI j := he
      rcases nxt i hi with ⟨h, -⟩ | ⟨j', h1, h3, h2, -⟩
      · exact absurd (h.symm.trans he') (no1 j hj)
      · have e := one _ _ h1 hj (h2.symm.trans he')
        rw [← e]
        exact h3
    · have he' : s.1 54 i = nI j := he
      obtain ⟨-, ⟨-, h1, -⟩ | ⟨p, b, p1, p2, p3, p4, p5, p6, -⟩⟩ := hG5 i hi
      · exact absurd (h1.symm.trans he') (no1 j hj)
      · have e := one _ _ (by omega) hj (p4.symm.trans he')
        rw [← e]; exact p6
    · have he' : s.1 56 i = nI j := he
      rcases chi i hi with ⟨h, -⟩ | ⟨j', h1, h2, -⟩
      · exact absurd (h.symm.trans he') (no1 j hj)
      · obtain ⟨a1, a2⟩ := inn i j' 0 (by decide) h1
        have e := one _ _ a1 hj (h2.symm.trans he')
        rw [← e]; exact a2
    · have he' : s.1 57 i = nI j := he
      rcases oth i hi with ⟨-, h, -⟩ | ⟨j', h1, h2, -⟩
      · exact absurd (h.symm.trans he') (no1 j hj)
      · obtain ⟨a1, a2⟩ := inn i j' 1 (by decide) (by rw [show 4 + 2 * i + 1 = 5 + 2 * i by omega]; exact h1)
        have e := one _ _ a1 hj (h2.symm.trans he')
        rw [← e]; exact a2
  · rw [show 4 * 1 + u = 4 + u by omega]
    rcases hea u hu with h | ⟨j, h1, h2⟩
    · exact Or.inl h
    · exact Or.inr ⟨j, (hG2 _ j h1).1, h2⟩
  · have he' : s.1 41 u = nI j := he
    rcases hea u hu with ⟨h, -⟩ | ⟨j', h1, h2, -⟩
    · exact absurd (h.symm.trans he') (no1 j hj)
    · obtain ⟨a1, a2, -⟩ := hG2 _ j' h1
      have e := one _ _ a1 hj (h2.symm.trans he')
      obtain ⟨⟨b1, -⟩, ⟨b2, -⟩ | ⟨p, b, p1, p2, p3, -⟩⟩ := hG5 j' a1
      · rw [← e]; omega
      · omega
  · rw [z1] at hk
    rcases oth i hi with ⟨-, h, -⟩ | ⟨j, h1, -⟩
    · exact h
    · exact absurd (hG7 i hi (fun y => by rw [y] at h1; cases h1)) hk
theorem rwF_ways (h : rwF s t nc nl nt N cl th K bl go) : ∃ s' t', qev en (d + 2) 101 [.ref 36] s = some (none, s') ∧ qev en (d' + 1) 292 [.ref 151, .int (nI 1)] t = some (none, t') ∧ (∀ a, a ≠ 58 → a ≠ 59 → s'.1 a = s.1 a) ∧ s'.2 = s.2 ∧ (∀ a, a ≠ 174 → t'.1 a = t.1 a) ∧ (∀ j, j < 100 ∨ 200 ≤ j → t'.1 174 j = t.1 174 j) ∧ t'.2 = t.2 ∧ rwF s' t' nc nl nt N cl th K bl go ∧ PV (rdP s' 36) nc nl nt N ∧ MB t' 1 (rdP s' 36) nc nl nt N := by
  obtain ⟨h1, h2, h3, h4⟩ := id h
  have hN : N ≤ 100 := h1.1.2.2.2.2
  have hnt : nt ≤ 4 := h1.1.2.2.1.2
  have hT : trF 36 1 s t nt N th := TG_tr h3 hN hnt (fun i hi => by
    obtain ⟨⟨k, g1, -⟩, -⟩ := h2 i hi
    exact ⟨k, g1⟩)
  obtain ⟨s', x1, x2, x3, x4⟩ := x_layWays (en := en) (d := d) (Or.inr rfl) hN hT.1 h1.1.2.2.2.1
  obtain ⟨t', y1, y2, y3, y4, y5⟩ := m_layFlow (en := en) (d := d') (v := 1) (by decide) hN hT.1 h4
  obtain ⟨p1, p2⟩ := ways_al (Or.inr rfl) h1 (fun i hi => (h2 i hi).1) hT (by decide) x2 x4 y2 y5
  have x2' : ∀ a, a ≠ 58 → a ≠ 59 → s'.1 a = s.1 a := x2
  refine ⟨s', t', x1, y1, x2', x3, y2, fun j hj => y3 j (by omega), y4, ?_, p1, p2⟩
  refine ⟨cnF_ch h1 (fun c hc => x2' c (by omega) (by omega)) (fun c hc => y2 c (by omega)), fun i hi => ?_, ?_, by rw [y2 151 (by decide)]; exact h4⟩
  · obtain ⟨⟨k, g1, g2, g3, g4, g5, g6, g7, g8, g9⟩, g10⟩ := h2 i hi
    have ex : ∀ c, c ≠ 22 → c ≠ 23 → s'.1 (36 + c) = s.1 (36 + c) := fun c a b => x2' _ (by omega) (by omega)
    have hlm : lmR 36 ≤ 500 := lmR_le
    have e8 := x2' 8 (by decide) (by decide)
    have e9 := x2' 9 (by decide) (by decide)
    refine ⟨⟨k, by rw [ex 7 (by decide) (by decide), y2 164 (by decide)]; exact g1, by rw [ex 8 (by decide) (by decide)]; exact g2, by rw [ex 9 (by decide) (by decide), y2 166 (by decide)]; exact g3, by rw [ex 9 (by decide) (by decide)]; exact g4, by rw [ex 10 (by decide) (by decide), y2 167 (by decide)]; exact g5, ?_, ?_, by rw [ex 12 (by decide) (by decide), ex 13 (by decide) (by decide)]; exact g8, by rw [ex 14 (by decide) (by decide), ex 15 (by decide) (by decide)]; exact g9⟩, ?_⟩
    · rw [ex 12 (by decide) (by decide), ex 13 (by decide) (by decide), y2 176 (by decide), y2 177 (by decide)]
      exact exF_cg g6 (fun _ _ _ j _ _ => by rw [e8, e9]; exact ⟨rfl, rfl⟩) hlm (y2 161 (by decide)) (y2 162 (by decide))
    · rw [ex 14 (by decide) (by decide), ex 15 (by decide) (by decide), y2 178 (by decide), y2 179 (by decide)]
      exact exF_cg g7 (fun _ _ _ j _ _ => by rw [e8, e9]; exact ⟨rfl, rfl⟩) hlm (y2 161 (by decide)) (y2 162 (by decide))
    · unfold rgF
      rw [x2' 43 (by decide) (by decide), x2' 48 (by decide) (by decide), x2' 49 (by decide) (by decide), x2' 51 (by decide) (by decide), x2' 52 (by decide) (by decide), y4]
      exact g10
  · unfold TG
    rw [x2' 41 (by decide) (by decide), x2' 44 (by decide) (by decide), x2' 53 (by decide) (by decide), x2' 54 (by decide) (by decide), x2' 55 (by decide) (by decide), x2' 56 (by decide) (by decide), x2' 57 (by decide) (by decide), x2' 60 (by decide) (by decide), y2 164 (by decide), y2 165 (by decide), y2 169 (by decide), y2 170 (by decide), y2 171 (by decide), y2 172 (by decide), y2 173 (by decide), y2 175 (by decide), y2 181 (by decide)]
    exact h3
end RWY
