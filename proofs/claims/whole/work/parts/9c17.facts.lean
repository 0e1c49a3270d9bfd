/-! THE READER: the program that was read, as a program of both. -/
/-- a program that was read, on both sides -/
abbrev tpT (s t : qS) (V : Nat → Nat) (U : Nat → Nat → Nat) (cl : Nat → Nat) (nc nl nt m N : Nat) (th K : Nat → Nat) (bl : Nat → List Nat) : Prop :=
  nmR s t V U cl nc nl nt ∧ (s.1 11 12 = nI N ∧ t.1 151 32 = nI N ∧ N ≤ 100 ∧ elI bl t 0 N) ∧ m ≤ 400 ∧ (∀ i, i < N → lnB s t nc nl nt m cl th i) ∧ lnG s t nt N K th bl ∧ clR s t nc ∧ laR s t nt
section RPF
variable {en : pN} {d d' k i n N j r v u m nc nl nt : Nat} {V cl th K : Nat → Nat} {U : Nat → Nat → Nat} {bl : Nat → List Nat} {s s' t t' : qS} {f f' g h2 : fI} {nn nn' : Int32}
theorem lkd_nx : ∀ (L : List Nat) (h h' : Int32), lkd f nn h L → lkd f' nn' h' L → (∀ i, i ∈ L → (f i = nn ∧ f' i = nn') ∨ ∃ j, j ∈ L ∧ f i = nI j ∧ f' i = nI j) ∧ ((L = [] ∧ h = nn ∧ h' = nn') ∨ ∃ j, j ∈ L ∧ h = nI j ∧ h' = nI j)
  | [], h, h', a, b => ⟨fun i hi => absurd hi (by simp), Or.inl ⟨rfl, a, b⟩⟩
  | x :: L, h, h', a, b => by
    obtain ⟨ih1, ih2⟩ := lkd_nx L (f x) (f' x) a.2 b.2
    refine ⟨fun i hi => ?_, Or.inr ⟨x, List.mem_cons_self, a.1, b.1⟩⟩
    rcases List.mem_cons.mp hi with rfl | hi
    · rcases ih2 with ⟨_, c1, c2⟩ | ⟨j, c1, c2, c3⟩
      · exact Or.inl ⟨c1, c2⟩
      · exact Or.inr ⟨j, List.mem_cons_of_mem _ c1, c2, c3⟩
    · rcases ih1 i hi with c | ⟨j, c1, c2, c3⟩
      · exact Or.inl c
      · exact Or.inr ⟨j, List.mem_cons_of_mem _ c1, c2, c3⟩
theorem hdK_t (h : u < 4) : hdK f g h2 u = f u := if_pos h
theorem hdK_c : hdK f g h2 (4 + 2 * i) = g i := by
  unfold hdK
  rw [if_neg (by omega), if_pos (by omega), show (4 + 2 * i - 4) / 2 = i by omega]
theorem hdK_o : hdK f g h2 (5 + 2 * i) = h2 i := by
  unfold hdK
  rw [if_neg (by omega), if_neg (by omega), show (5 + 2 * i - 4) / 2 = i by omega]
theorem tpT_S (h : tpS s t V U cl nc nl nt m N th K bl) : tpT s t V U cl nc nl nt m N th K bl := ⟨h.1, h.2.2.1, h.2.1.2.2.1.2.2, h.2.2.2.1, h.2.2.2.2.1, h.2.2.2.2.2.2.1, h.2.2.2.2.2.2.2⟩
theorem tpT_facts (hS : tpT s t V U cl nc nl nt m N th K bl) (hai : aiI s nt N) : cnF 11 s t nc nl nt N cl ∧ (∀ i, i < N → lnF 11 0 s t nc nl nt cl th i) ∧ trF 11 0 s t nt N th := by
  obtain ⟨⟨⟨hnc, hnl, hnt⟩, ⟨s9, s10, s11⟩, -, -, -, hL⟩, ⟨h12, h32, hN, hel⟩, hm, hln, ⟨hG1, hG2, hG3, -, hG5⟩, hc, hl⟩ := hS
  have kyB : ∀ i, i < N → kyV nt N (K i) := fun i hi => by
    obtain ⟨⟨a1, -⟩, ⟨a2, -⟩ | ⟨p, b, b1, b2, b3, -⟩⟩ := hG5 i hi
    · exact Or.inl (by omega)
    · exact Or.inr ⟨by omega, by omega⟩
  have same : ∀ k i j, i ∈ bl k → j ∈ bl k → th j = th i := fun k i j hi hj => by
    obtain ⟨a1, a2⟩ := hG2 k i hi
    obtain ⟨b1, b2⟩ := hG2 k j hj
    obtain ⟨⟨a3, -⟩, a4⟩ := hG5 i a1
    obtain ⟨⟨b3, -⟩, b4⟩ := hG5 j b1
    rcases a4 with ⟨a4, -⟩ | ⟨p, b, p1, p2, p3, -, -, p4, -⟩ <;> rcases b4 with ⟨b4, -⟩ | ⟨p', b', q1, q2, q3, -, -, q4, -⟩
    · omega
    · omega
    · omega
    · have : p = p' := by omega
      rw [← p4, ← q4, this]
  have nxt : ∀ i, i < N → (s.1 28 i = -1 ∧ t.1 171 i = -2) ∨ ∃ j, j ∈ bl (K i) ∧ s.1 28 i = nI j ∧ t.1 171 i = nI j := fun i hi => by
    obtain ⟨a1, a2⟩ := hG1 (K i) (kyB i hi)
    exact (lkd_nx _ _ _ a1 a2).1 i (hG3 i hi)
  have hdd : ∀ k, kyV nt N k → (bl k = [] ∧ hdK (s.1 16) (s.1 31) (s.1 32) k = -1 ∧ hdK (t.1 181) (t.1 172) (t.1 173) k = -2) ∨ ∃ j, j ∈ bl k ∧ hdK (s.1 16) (s.1 31) (s.1 32) k = nI j ∧ hdK (t.1 181) (t.1 172) (t.1 173) k = nI j := fun k hk => by
    obtain ⟨a1, a2⟩ := hG1 k hk
    exact (lkd_nx _ _ _ a1 a2).2
  have chi : ∀ i, i < N → (s.1 31 i = -1 ∧ t.1 172 i = -2) ∨ ∃ j, j ∈ bl (4 + 2 * i) ∧ s.1 31 i = nI j ∧ t.1 172 i = nI j := fun i hi => by
    have := hdd (4 + 2 * i) (Or.inr ⟨by omega, by omega⟩)
    rw [hdK_c, hdK_c] at this
    rcases this with ⟨-, h⟩ | h
    · exact Or.inl h
    · exact Or.inr h
  have oth : ∀ i, i < N → (bl (5 + 2 * i) = [] ∧ s.1 32 i = -1 ∧ t.1 173 i = -2) ∨ ∃ j, j ∈ bl (5 + 2 * i) ∧ s.1 32 i = nI j ∧ t.1 173 i = nI j := fun i hi => by
    have := hdd (5 + 2 * i) (Or.inr ⟨by omega, by omega⟩)
    rw [hdK_o, hdK_o] at this
    exact this
  have hea : ∀ u, u < nt → (s.1 16 u = -1 ∧ t.1 181 u = -2) ∨ ∃ j, j ∈ bl u ∧ s.1 16 u = nI j ∧ t.1 181 u = nI j := fun u hu => by
    have := hdd u (Or.inl hu)
    rw [hdK_t (by omega), hdK_t (by omega)] at this
    rcases this with ⟨-, h⟩ | h
    · exact Or.inl h
    · exact Or.inr h
  have inn : ∀ i j b, b < 2 → j ∈ bl (4 + 2 * i + b) → j < N ∧ th j = th i := fun i j b hb hj => by
    obtain ⟨a1, a2⟩ := hG2 _ j hj
    obtain ⟨⟨a3, -⟩, ⟨a4, -⟩ | ⟨p, b', p1, p2, p3, -, -, p4, -⟩⟩ := hG5 j a1
    · omega
    · have : p = i := by omega
      exact ⟨a1, by rw [← p4, this]⟩
  have one : ∀ a b, a < N → b < N → nI a = nI b → a = b := fun a b ha hb h => by rw [n_EQ (by omega) (by omega)] at h; exact h
  have no1 : ∀ a, a < N → ¬ (-1 : Int32) = nI a := fun a ha h => (n_1m (by omega)).mp h
  refine ⟨⟨⟨⟨s9, hnc⟩, ⟨s10, hnl⟩, ⟨s11, hnt⟩, h12, hN⟩, fun u hu => ?_, fun c hc' => ?_, fun u hu => ?_⟩, fun i hi => ?_, fun i hi => ?_, fun i j a hi hj ha he => ?_, fun u hu => ⟨?_, fun j hj he => ?_⟩, fun i hi hk => ?_⟩
  · obtain ⟨l1, -, l3, -⟩ := hL u (by omega)
    exact ⟨l1, l3⟩
  · rcases hc c (by omega) with ⟨y1, y2, y3, y4⟩ | ⟨y1, -⟩
    · exact ⟨y2, y4⟩
    · omega
  · rcases hl u (by omega) with ⟨y1, y2⟩ | ⟨y1, -⟩
    · exact y2
    · omega
  · obtain ⟨k, ⟨c1, c2, c3⟩, ⟨c4, c5, c6⟩, c7, ⟨c8, c9⟩, ⟨c10, c11⟩, c12, ⟨c13, c14⟩, c15, c16, c17, c18, c19, c20⟩ := hln i hi
    have z : 100 * 0 + i = i := by omega
    refine ⟨k, ?_⟩
    rw [z]
    refine ⟨⟨c1, c2, c3⟩, ⟨c4, c5⟩, c7, ⟨c8, c9, fun hk => hai i hi ?_⟩, ⟨c10, c11⟩, exF_of c15 hm, exF_of c16 hm, c17, c18⟩
    rw [c2]
    rcases hk with hk | hk
    · left; rw [hk]; rfl
    · right; rw [hk]; rfl
  · obtain ⟨k, ⟨c1, c2, c3⟩, -⟩ := hln i hi
    have z : 100 * 0 + i = i := by omega
    rw [z]
    refine ⟨⟨k, c1, c2, c3⟩, ?_, ?_, ?_, ?_⟩
    · rcases nxt i hi with h | ⟨j, h1, h2⟩
      · exact Or.inl h
      · exact Or.inr ⟨j, (hG2 _ j h1).1, h2⟩
    · obtain ⟨-, ⟨-, h1, h2⟩ | ⟨p, b, p1, p2, p3, p4, p5, -⟩⟩ := hG5 i hi
      · exact Or.inl ⟨h1, h2⟩
      · exact Or.inr ⟨p, p1, p4, p5⟩
    · rcases chi i hi with h | ⟨j, h1, h2⟩
      · exact Or.inl h
      · exact Or.inr ⟨j, (hG2 _ j h1).1, h2⟩
    · rcases oth i hi with ⟨-, h⟩ | ⟨j, h1, h2⟩
      · exact Or.inl h
      · exact Or.inr ⟨j, (hG2 _ j h1).1, h2⟩
  · rcases ha with rfl | rfl | rfl | rfl
    · have he' : s.1 28 i = nI j := he
      rcases nxt i hi with ⟨h, -⟩ | ⟨j', h1, h2, -⟩
      · exact absurd (h.symm.trans he') (no1 j hj)
      · have e := one _ _ (hG2 _ j' h1).1 hj (h2.symm.trans he')
        rw [← e]
        exact same (K i) i j' (hG3 i hi) h1
    · have he' : s.1 29 i = nI j := he
      obtain ⟨-, ⟨-, h1, -⟩ | ⟨p, b, p1, p2, p3, p4, p5, p6, -⟩⟩ := hG5 i hi
      · exact absurd (h1.symm.trans he') (no1 j hj)
      · have e := one _ _ (by omega) hj (p4.symm.trans he')
        rw [← e]; exact p6
    · have he' : s.1 31 i = nI j := he
      rcases chi i hi with ⟨h, -⟩ | ⟨j', h1, h2, -⟩
      · exact absurd (h.symm.trans he') (no1 j hj)
      · obtain ⟨a1, a2⟩ := inn i j' 0 (by decide) h1
        have e := one _ _ a1 hj (h2.symm.trans he')
        rw [← e]; exact a2
    · have he' : s.1 32 i = nI j := he
      rcases oth i hi with ⟨-, h, -⟩ | ⟨j', h1, h2, -⟩
      · exact absurd (h.symm.trans he') (no1 j hj)
      · obtain ⟨a1, a2⟩ := inn i j' 1 (by decide) (by rw [show 4 + 2 * i + 1 = 5 + 2 * i by omega]; exact h1)
        have e := one _ _ a1 hj (h2.symm.trans he')
        rw [← e]; exact a2
  · have z : 4 * 0 + u = u := by omega
    rw [z]
    rcases hea u hu with h | ⟨j, h1, h2⟩
    · exact Or.inl h
    · exact Or.inr ⟨j, (hG2 _ j h1).1, h2⟩
  · have he' : s.1 16 u = nI j := he
    rcases hea u hu with ⟨h, -⟩ | ⟨j', h1, h2, -⟩
    · exact absurd (h.symm.trans he') (no1 j hj)
    · obtain ⟨a1, a2⟩ := hG2 _ j' h1
      have e := one _ _ a1 hj (h2.symm.trans he')
      rw [← e]
      obtain ⟨⟨a3, -⟩, ⟨a4, -⟩ | ⟨p, b, p1, p2, p3, -⟩⟩ := hG5 j' a1
      · omega
      · omega
  · have z : 100 * 0 + i = i := by omega
    rw [z] at hk
    rcases oth i hi with ⟨-, h, -⟩ | ⟨j, h1, -⟩
    · exact h
    · exact absurd (hel i (Nat.zero_le i) hi (fun z => by rw [z] at h1; exact absurd h1 (by simp))) hk
end RPF
