/-! A PROGRAM OF BOTH, once its ways are laid. -/
/-- below this the nodes are the program's own -/
def lmR (r : Nat) : Nat := if r = 11 then 400 else 500
/-- the rows of the class's program r -/
def rdP (s : qS) (r : Nat) : Nat → fI := fun a => if a = 25 then s.1 8 else if a = 26 then s.1 9 else if a = 27 then fun _ => nI (lmR r) else s.1 (r + a)
/-- an expression of a line on both sides -/
abbrev exF (L : Nat) (s t : qS) (u : Nat) (A E A' E' : Int32) : Prop := ∃ a e : Nat, A = nI a ∧ E = nI e ∧ a ≤ e ∧ e ≤ L ∧ dpk (s.1 8) (s.1 9) 236 (e - a) a 0 ∧ ((a = e ∧ ∃ z : Nat, z ≤ 900 ∧ A' = nI z ∧ E' = nI z) ∨ (A' = nI a ∧ E' = nI e ∧ e ≤ 400 ∧ ndsR t (s.1 8) (s.1 9) u 0 a e ∧ ∀ j, a ≤ j → j < e → t.1 161 j ≠ 21) ∨ (e = a + 1 ∧ a < 500 ∧ ∃ k, k < 6 ∧ s.1 8 a = nI 2 ∧ s.1 9 a = nI (16 + u * 6 + k) ∧ A' = -1 - nI k))
/-- a line of both -/
abbrev lnF (r v : Nat) (s t : qS) (nc nl nt : Nat) (cl th : Nat → Nat) (i : Nat) : Prop := ∃ k : Nat, (k < 19 ∧ s.1 (r + 7) i = nI k ∧ t.1 164 (100 * v + i) = nI k) ∧ (th i < nt ∧ s.1 (r + 8) i = nI (th i)) ∧ t.1 166 (100 * v + i) = s.1 (r + 9) i ∧ ((1 ≤ k → k ≤ 4 → ∃ c, c < nc ∧ s.1 (r + 9) i = nI c) ∧ (5 ≤ k → k ≤ 9 → ∃ l, l < nl ∧ s.1 (r + 9) i = nI l) ∧ (k = 10 ∨ k = 11 → ∃ u, u < nt ∧ s.1 (r + 9) i = nI u)) ∧ (t.1 167 (100 * v + i) = s.1 (r + 10) i ∧ ((s.1 (r + 10) i = -2 ∧ k ≠ 1) ∨ ∃ j, j < cl (th i) ∧ s.1 (r + 10) i = nI j)) ∧
  exF (lmR r) s t (th i) (s.1 (r + 12) i) (s.1 (r + 13) i) (t.1 176 (100 * v + i)) (t.1 177 (100 * v + i)) ∧ exF (lmR r) s t (th i) (s.1 (r + 14) i) (s.1 (r + 15) i) (t.1 178 (100 * v + i)) (t.1 179 (100 * v + i)) ∧ (k = 1 ∨ 5 ≤ k ∧ k ≤ 13 → s.1 (r + 12) i = s.1 (r + 13) i) ∧ (k ≠ 3 → s.1 (r + 14) i = s.1 (r + 15) i)
/-- the tree of lines -/
abbrev trF (r v : Nat) (s t : qS) (nt N : Nat) (th : Nat → Nat) : Prop := lwI r v N s t ∧ (∀ i j a, i < N → j < N → a = 17 ∨ a = 18 ∨ a = 20 ∨ a = 21 → s.1 (r + a) i = nI j → th j = th i) ∧ (∀ u, u < nt → nx2 (s.1 (r + 5) u) (t.1 181 (4 * v + u)) N ∧ ∀ j, j < N → s.1 (r + 5) u = nI j → th j = u) ∧ ∀ i, i < N → t.1 164 (100 * v + i) ≠ 17 → s.1 (r + 21) i = -1
/-- names and numbers -/
abbrev cnF (r : Nat) (s t : qS) (nc nl nt N : Nat) (cl : Nat → Nat) : Prop := ((s.1 r 9 = nI nc ∧ nc ≤ 8) ∧ (s.1 r 10 = nI nl ∧ nl ≤ 4) ∧ (s.1 r 11 = nI nt ∧ nt ≤ 4) ∧ s.1 r 12 = nI N ∧ N ≤ 100) ∧ (∀ u, u < nt → s.1 (r + 3) u = nI (cl u) ∧ cl u ≤ 6) ∧ (∀ c, c < nc → t.1 154 c = s.1 (r + 4) c ∧ t.1 155 c = bt ((s.1 r 7).toBitVec.getLsbD c)) ∧ ∀ u, u < nt → t.1 158 u = bt ((s.1 r 8).toBitVec.getLsbD u)
section PMB
variable {en : pN} {d d' k i n N j r v u m nc nl nt : Nat} {cl th : Nat → Nat} {s s' t t' : qS} {a b A E A' E' : Int32}
theorem uv_nx2 (h : nx2 a b N) (hN : N ≤ 100) : uv b = a := by
  unfold uv
  rcases h with ⟨rfl, rfl⟩ | ⟨j, h1, rfl, rfl⟩
  · exact if_pos rfl
  · exact if_neg (fun z => (n_m2 (by omega)).mp z)
theorem nx2_b (h : nx2 a b N) (hN : N ≤ 100) : b = -2 ∨ ∃ j, b = nI j ∧ j < 100 := by
  rcases h with ⟨_, rfl⟩ | ⟨j, h1, _, rfl⟩
  · exact Or.inl rfl
  · exact Or.inr ⟨j, rfl, by omega⟩
theorem lmR_le : lmR r ≤ 500 := by
  unfold lmR
  split <;> decide
theorem lm_rd : lmN (rdP s r) = lmR r := n_cl (by have := @lmR_le r; omega)
theorem exF_of (h : exA s t u m A E A' E') (hm : m ≤ 400) : exF 400 s t u A E A' E' := by
  obtain ⟨a, e, h1, h2, ⟨h3, h4, h5⟩ | ⟨h3, h4, h5, h6, h7, h8, h9⟩⟩ := h
  · refine ⟨a, e, h1, h2, by omega, by omega, ?_, Or.inl ⟨h3, h5⟩⟩
    rw [h3, Nat.sub_self]
    trivial
  · refine ⟨a, e, h1, h2, by omega, by omega, gw_dpk h9, Or.inr (Or.inl ⟨h6, h7, by omega, fun j j1 j2 k hk hk2 => ?_, fun j j1 j2 => ?_⟩)⟩
    · obtain ⟨k', K, g1, g2, g3, g4, g5⟩ := h8 j j1 j2
      have ek : k = k' := by
        have := op_lt k' g1
        rw [show s.1 8 j = nI k' from g2, n_EQ (by omega) (by omega)] at hk
        exact hk.symm
      rw [ek]
      exact ⟨K, g3, g4⟩
    · obtain ⟨k', K, g1, g2, g3, g4, g5⟩ := h8 j j1 j2
      have := g5 rfl
      rw [Nat.zero_add] at g3
      rw [g3]
      intro z
      rw [n_eq (by decide) (by omega)] at z
      omega
/-- what is behind a line is of its thread -/
theorem bh_th (hT : trF r v s t nt N th) (hN : N ≤ 100) : ∀ i, i < N → bhR s r i = -1 ∨ ∃ j, j < N ∧ bhR s r i = nI j ∧ th j = th i := by
  obtain ⟨hI, hS, -, -⟩ := hT
  intro i
  induction i using Nat.strongRecOn with
  | ind i ih =>
    intro hi
    obtain ⟨-, hnx, hpa, -, -⟩ := hI i hi
    rw [bhR_step hI hN hi]
    rcases nx2_lt hnx hN with ⟨a1, a2, a3⟩ | ⟨j, a1, a2, a3, a4⟩
    · rw [if_pos a1]
      rcases hpa with ⟨b1, b2⟩ | ⟨p, b1, b2, b3⟩
      · left
        rw [b1, if_pos (by decide)]
      · rw [b2, if_neg (by rw [n_gt (by decide) (by omega)]; omega), n_clp (by omega)]
        have hp := hS i p 18 hi (by omega) (by omega) b2
        by_cases q : s.1 (r + 7) p = 18
        · rw [if_pos q]
          exact Or.inr ⟨p, by omega, rfl, hp⟩
        · rw [if_neg q]
          rcases ih p b1 (by omega) with c | ⟨j, c1, c2, c3⟩
          · exact Or.inl c
          · exact Or.inr ⟨j, c1, c2, c3.trans hp⟩
    · rw [a2, if_neg a4]
      exact Or.inr ⟨j, a1, rfl, hS i j 17 hi a1 (by omega) a2⟩
theorem ways_al (hr : r = 11 ∨ r = 36) (hC : cnF r s t nc nl nt N cl) (hL : ∀ i, i < N → lnF r v s t nc nl nt cl th i) (hT : trF r v s t nt N th) (hv : v ≤ 3) (f1 : ∀ a, a ≠ r + 22 → a ≠ r + 23 → s'.1 a = s.1 a) (f2 : ∀ j, j < N → s'.1 (r + 22) j = itV s r j ∧ s'.1 (r + 23) j = elV s r j) (g1 : ∀ a, a ≠ 174 → t'.1 a = t.1 a) (g2 : ∀ j, j < N → nx2 (bhR s r j) (t'.1 174 (100 * v + j)) N) : PV (rdP s' r) nc nl nt N ∧ MB t' v (rdP s' r) nc nl nt N := by
  obtain ⟨⟨⟨c1, c2⟩, ⟨c3, c4⟩, ⟨c5, c6⟩, c7, hN⟩, hlo, hce, hla⟩ := hC
  obtain ⟨hI, hS, hH, hO⟩ := id hT
  have pe : ∀ a, a < 25 → a ≠ 22 → a ≠ 23 → rdP s' r a = s.1 (r + a) := fun a h1 h2 h3 => by
    unfold rdP
    rw [if_neg (by omega), if_neg (by omega), if_neg (by omega)]
    exact f1 _ (by omega) (by omega)
  have p22 : rdP s' r 22 = s'.1 (r + 22) := rfl
  have p23 : rdP s' r 23 = s'.1 (r + 23) := rfl
  have p25 : rdP s' r 25 = s.1 8 := by
    show s'.1 8 = _
    rcases hr with rfl | rfl
    · exact f1 8 (by decide) (by decide)
    · exact f1 8 (by decide) (by decide)
  have p26 : rdP s' r 26 = s.1 9 := by
    show s'.1 9 = _
    rcases hr with rfl | rfl
    · exact f1 9 (by decide) (by decide)
    · exact f1 9 (by decide) (by decide)
  have p0 := pe 0 (by decide) (by decide) (by decide)
  have p3 := pe 3 (by decide) (by decide) (by decide)
  have p4 := pe 4 (by decide) (by decide) (by decide)
  have p5 := pe 5 (by decide) (by decide) (by decide)
  have p7 := pe 7 (by decide) (by decide) (by decide)
  have p8 := pe 8 (by decide) (by decide) (by decide)
  have p9 := pe 9 (by decide) (by decide) (by decide)
  have p10 := pe 10 (by decide) (by decide) (by decide)
  have p12 := pe 12 (by decide) (by decide) (by decide)
  have p13 := pe 13 (by decide) (by decide) (by decide)
  have p14 := pe 14 (by decide) (by decide) (by decide)
  have p15 := pe 15 (by decide) (by decide) (by decide)
  have lctE : ∀ u, u < nt → lct (rdP s' r) u = cl u := fun u hu => by
    show clp (rdP s' r 3 u) = _
    rw [p3, (hlo u hu).1]
    exact n_clp (by have := (hlo u hu).2; omega)
  have th8 : ∀ j, j < N → rdP s' r 8 j = nI (th j) := fun j hj => by
    obtain ⟨k, -, ⟨-, h⟩, -⟩ := hL j hj
    rw [p8]; exact h
  have goB : ∀ i, i < N → goV (rdP s' r) N (th i) (bhR s r i) := fun i hi => by
    rcases bh_th hT hN i hi with h | ⟨j, h1, h2, h3⟩
    · exact Or.inl h
    · exact Or.inr ⟨j, h2, h1, by rw [th8 j h1, h3]⟩
  have go22 : ∀ i, i < N → goV (rdP s' r) N (th i) (rdP s' r 22 i) := fun i hi => by
    rw [p22, (f2 i hi).1]
    obtain ⟨-, -, -, hch, -⟩ := hI i hi
    rcases nx2_lt hch hN with ⟨a1, -, -⟩ | ⟨j, a1, a2, a3, a4⟩
    · show goV _ _ _ (if _ then _ else _)
      rw [if_pos a1]
      by_cases q : s.1 (r + 7) i = 18
      · rw [if_pos q]
        exact Or.inr ⟨i, rfl, hi, th8 i hi⟩
      · rw [if_neg q]; exact goB i hi
    · show goV _ _ _ (if _ then _ else _)
      rw [a2, if_neg a4]
      exact Or.inr ⟨j, rfl, a1, by rw [th8 j a1, hS i j 20 hi a1 (by omega) a2]⟩
  have go23 : ∀ i, i < N → goV (rdP s' r) N (th i) (rdP s' r 23 i) := fun i hi => by
    rw [p23, (f2 i hi).2]
    obtain ⟨-, -, -, -, hot⟩ := hI i hi
    rcases nx2_lt hot hN with ⟨a1, -, -⟩ | ⟨j, a1, a2, a3, a4⟩
    · show goV _ _ _ (if _ then _ else _)
      rw [if_pos a1]; exact goB i hi
    · show goV _ _ _ (if _ then _ else _)
      rw [a2, if_neg a4]
      exact Or.inr ⟨j, rfl, a1, by rw [th8 j a1, hS i j 21 hi a1 (by omega) a2]⟩
  have hx : ∀ i A E A' E' q, exF (lmR r) s t (th i) A E A' E' → rdP s' r (7 + q) i = A → rdP s' r (8 + q) i = E → expOK (rdP s' r) q i ∧ exM t' (rdP s' r) (th i) q i A' E' := fun i A E A' E' q h hA hE => by
    obtain ⟨a, e, h1, h2, h3, h4, h5, h6⟩ := h
    have hd : dpk (rdP s' r 25) (rdP s' r 26) 236 (e - a) a 0 := by rw [p25, p26]; exact h5
    refine ⟨⟨a, e, hA.trans h1, hE.trans h2, h3, by rw [lm_rd]; exact h4, hd⟩, ⟨a, e, hA.trans h1, hE.trans h2, h3, hd, ?_⟩⟩
    rcases h6 with h6 | ⟨y1, y2, y3, y4, y5⟩ | ⟨y1, y2, k, y3, y4, y5, y6⟩
    · exact Or.inl h6
    · refine Or.inr (Or.inl ⟨y1, y2, y3, ?_, fun j j1 j2 => by rw [g1 161 (by decide)]; exact y5 j j1 j2⟩)
      rw [p25, p26]
      intro j j1 j2 k hk hk2
      rw [g1 161 (by decide), g1 162 (by decide)]
      exact y4 j j1 j2 k hk hk2
    · exact Or.inr (Or.inr ⟨y1, y2, k, y3, by rw [p25]; exact y4, by rw [p26]; exact y5, y6⟩)
  refine ⟨⟨⟨by rw [p0]; exact c1, c2⟩, ⟨by rw [p0]; exact c3, c4⟩, ⟨by rw [p0]; exact c5, c6⟩, ⟨by rw [p0]; exact c7, hN⟩, fun i hi => ?_, fun u hu => ⟨?_, ?_, ?_⟩⟩, hv, fun i hi => ?_, fun c hc => ?_, fun u hu => ?_⟩
  · obtain ⟨k, ⟨k1, k2, k3⟩, ⟨k4, k5⟩, k6, ⟨k7, k8, k9⟩, ⟨k10, k11⟩, k12, k13, -⟩ := hL i hi
    have hkd : kd (rdP s' r) i = k := by
      show clp (rdP s' r 7 i) = k
      rw [p7, k2]
      exact n_clp (by omega)
    have ob9 : ∀ (c M : Nat), M ≤ 8 → c < M → s.1 (r + 9) i = nI c → rdP s' r 9 i = nI (ob (rdP s' r) i) ∧ ob (rdP s' r) i < M := fun c M hM h1 h2 => by
      have e : ob (rdP s' r) i = c := by
        show clp (rdP s' r 9 i) = c
        rw [p9, h2]
        exact n_clp (by omega)
      rw [e, p9]
      exact ⟨h2, h1⟩
    unfold lnV
    rw [hkd]
    refine ⟨⟨by rw [p7]; exact k2, k1⟩, ⟨th i, k4, by rw [p8]; exact k5, go22 i hi, go23 i hi, ?_⟩, fun z1 z2 => ?_, fun z1 z2 => ?_, fun z => ?_, (hx i _ _ _ _ 5 k12 (by rw [p12]) (by rw [p13])).1, (hx i _ _ _ _ 7 k13 (by rw [p14]) (by rw [p15])).1⟩
    · rw [p10]
      rcases k11 with ⟨h, -⟩ | ⟨j, j1, j2⟩
      · exact Or.inl h
      · exact Or.inr ⟨j, j2, by rw [lctE _ k4]; exact j1⟩
    · obtain ⟨c, c1', c2'⟩ := k7 z1 z2
      exact ob9 c nc c2 c1' c2'
    · obtain ⟨c, c1', c2'⟩ := k8 z1 z2
      exact ob9 c nl (by omega) c1' c2'
    · obtain ⟨c, c1', c2'⟩ := k9 z
      exact ob9 c nt (by omega) c1' c2'
  · rw [p5]
    obtain ⟨h1, h2⟩ := hH u hu
    rcases h1 with ⟨h1, -⟩ | ⟨j, j1, j2, -⟩
    · exact Or.inl h1
    · exact Or.inr ⟨j, j2, j1, by rw [th8 j j1, h2 j j1 j2]⟩
  · rw [lctE u hu, p3]; exact (hlo u hu).1
  · rw [lctE u hu]; exact (hlo u hu).2
  · obtain ⟨k, ⟨k1, k2, k3⟩, ⟨k4, k5⟩, k6, -, ⟨k10, k11⟩, k12, k13, k14, k15⟩ := hL i hi
    obtain ⟨-, -, -, hch, hot⟩ := hI i hi
    have hbh := g2 i hi
    have hkd : kd (rdP s' r) i = k := by
      show clp (rdP s' r 7 i) = k
      rw [p7, k2]
      exact n_clp (by omega)
    have e172 := g1 172 (by decide)
    have e173 := g1 173 (by decide)
    have e23 : rdP s' r 23 i = uv (if t'.1 173 (100 * v + i) = -2 then t'.1 174 (100 * v + i) else t'.1 173 (100 * v + i)) := by
      rw [p23, (f2 i hi).2, e173]
      rcases nx2_lt hot hN with ⟨a1, a2, a3⟩ | ⟨j, a1, a2, a3, a4⟩
      · show (if _ then _ else _) = _
        rw [if_pos a1, if_pos a3]
        exact (uv_nx2 hbh hN).symm
      · show (if _ then _ else _) = _
        rw [a2, if_neg a4, a3, if_neg (fun z => (n_m2 (by omega)).mp z)]
        exact (uv_nx2 (Or.inr ⟨j, a1, rfl, rfl⟩) hN).symm
    refine ⟨by rw [p7, g1 164 (by decide), k2]; exact k3, by rw [p9, g1 166 (by decide)]; exact k6, by rw [p10, g1 167 (by decide)]; exact k10, fun z => ⟨e23, ?_⟩, fun z => ?_, fun z => ?_, ⟨th i, k4, by rw [p8]; exact k5, ?_, ?_⟩, fun z => ?_, fun z => ?_, fun q hq => ?_⟩
    · rw [hkd] at z
      rw [p22, (f2 i hi).1, e172]
      rcases nx2_lt hch hN with ⟨a1, a2, a3⟩ | ⟨j, a1, a2, a3, a4⟩
      · show (if _ then _ else _) = _
        rw [if_pos a1, if_neg (by rw [k2, z]; decide), if_pos a3]
        exact (uv_nx2 hbh hN).symm
      · show (if _ then _ else _) = _
        rw [a2, if_neg a4, a3, if_neg (fun z => (n_m2 (by omega)).mp z)]
        exact (uv_nx2 (Or.inr ⟨j, a1, rfl, rfl⟩) hN).symm
    · rw [hkd] at z
      rw [p22, (f2 i hi).1, e172]
      rcases nx2_lt hch hN with ⟨a1, a2, a3⟩ | ⟨j, a1, a2, a3, a4⟩
      · show (if _ then _ else _) = _
        rw [if_pos a1, if_pos (by rw [k2, z]; rfl), if_pos a3]
      · show (if _ then _ else _) = _
        rw [a2, if_neg a4, a3, if_neg (fun z => (n_m2 (by omega)).mp z)]
    · rw [hkd] at z
      have ho := hO i hi (by rw [k3, Ne, n_eq (by decide) (by omega)]; exact z)
      rw [p23, (f2 i hi).2]
      show (if _ then _ else _) = _
      rw [ho, if_pos (by decide)]
      exact (uv_nx2 hbh hN).symm
    · rw [g1 176 (by decide), g1 177 (by decide)]
      exact (hx i _ _ _ _ 5 k12 (by rw [p12]) (by rw [p13])).2
    · rw [g1 178 (by decide), g1 179 (by decide)]
      exact (hx i _ _ _ _ 7 k13 (by rw [p14]) (by rw [p15])).2
    · rw [hkd] at z
      rw [p12, p13]; exact k14 z
    · rw [hkd] at z
      rw [p14, p15]; exact k15 z
    · rcases hq with rfl | rfl | rfl
      · rw [e172]; exact nx2_b hch hN
      · rw [e173]; exact nx2_b hot hN
      · exact nx2_b hbh hN
  · rw [g1 154 (by decide), g1 155 (by decide), p4]
    obtain ⟨h1, h2⟩ := hce c hc
    refine ⟨h1, h2.trans ?_⟩
    unfold vol
    rw [p0, bitI (by omega)]
    cases (s.1 r 7).toBitVec.getLsbD c <;> rfl
  · rw [g1 158 (by decide), p5, g1 181 (by decide)]
    obtain ⟨h1, h2⟩ := hH u hu
    refine ⟨(hla u hu).trans ?_, (uv_nx2 h1 hN).symm, nx2_b h1 hN⟩
    unfold isL
    rw [p0, bitI (by omega)]
    cases (s.1 r 8).toBitVec.getLsbD u <;> rfl
end PMB
