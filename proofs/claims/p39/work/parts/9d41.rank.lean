/-! PROGRAMS BY THEIR TREE: where lines go on, their ranks. -/
/-- the tree of program P: blocks bl, line i in block K i of thread th i; go: left out -/
abbrev CTp (P : Nat → fI) (nt N : Nat) (bl : Nat → List Nat) (K th : Nat → Nat) (go : Nat → Bool) : Prop :=
  (∀ k, kyV nt N k → lkd (P 17) (-1) (hdK (P 5) (P 20) (P 21) k) (bl k)) ∧ (∀ k i, i ∈ bl k → i < N ∧ K i = k ∧ go i = false) ∧ (∀ i, i < N → go i = false → i ∈ bl (K i)) ∧ (∀ k, (bl k).Nodup) ∧
  (∀ i, i < N → (th i < nt ∧ P 8 i = nI (th i)) ∧ ((K i = th i ∧ P 18 i = -1) ∨ ∃ p b : Nat, p < i ∧ b < 2 ∧ K i = 4 + 2 * p + b ∧ P 18 i = nI p ∧ th p = th i)) ∧ ∀ i, i < N → go i = true → P 17 i = -1
/-- flat, no block of a thread longer than 8 -/
abbrev FLp (N : Nat) (bl : Nat → List Nat) (K : Nat → Nat) : Prop := (∀ k, 4 ≤ k → (bl k).length ≤ 1) ∧ (∀ i, i < N → K i < 4 ∨ K ((K i - 4) / 2) < 4) ∧ ∀ u, u < 4 → (bl u).length ≤ 8
/-- the place of i in its thread's block -/
def ixP (bl : Nat → List Nat) (K : Nat → Nat) (i : Nat) : Nat := (bl (K i)).idxOf i
def rkP (bl : Nat → List Nat) (K : Nat → Nat) (i : Nat) : Nat := if K i < 4 then 2 * ixP bl K i else 2 * ixP bl K ((K i - 4) / 2) + 1
/-- what is behind line i -/
abbrev bhP (P : Nat → fI) (i : Nat) : Int32 := bhS (P 17) (P 18) (P 7) (i + 1) i
abbrev itP (P : Nat → fI) (i : Nat) : Int32 := if P 20 i < 0 then (if P 7 i = 18 then nI i else bhP P i) else P 20 i
abbrev elP (P : Nat → fI) (i : Nat) : Int32 := if P 21 i < 0 then bhP P i else P 21 i
section RNK
variable {P : Nat → fI} {nt N i j k p a : Nat} {bl : Nat → List Nat} {K th : Nat → Nat} {go : Nat → Bool} {A C : List Nat} {x : Int32}
theorem idx_at : ∀ (A : List Nat), i ∉ A → (A ++ i :: C).idxOf i = A.length := by
  intro A
  induction A with
  | nil => intro _; show List.idxOf i (i :: C) = 0; rw [List.idxOf_cons, beq_self_eq_true i]; rfl
  | cons a A ih =>
    intro h
    have hb : (a == i) = false := by
      rw [beq_eq_false_iff_ne]
      exact fun z => h (by rw [z]; exact List.mem_cons_self)
    rw [List.cons_append, List.idxOf_cons, hb, cond_false, ih (fun z => h (List.mem_cons_of_mem _ z))]
    rfl
/-- the next line of its block stands one place further -/
theorem ix_next (hT : CTp P nt N bl K th go) (hnt : nt ≤ 4) (hN : N ≤ 100) (hi : i < N) (hx : P 17 i = x) : x = -1 ∨ ∃ j, j < N ∧ x = nI j ∧ K j = K i ∧ ixP bl K j = ixP bl K i + 1 ∧ (bl (K i)).length ≥ 2 := by
  cases hg : go i with
  | true => left; rw [← hx]; exact hT.2.2.2.2.2 i hi hg
  | false =>
    obtain ⟨A, C, hL⟩ := List.append_of_mem (hT.2.2.1 i hi hg)
    have hk : kyV nt N (K i) := by
      unfold kyV
      rcases (hT.2.2.2.2.1 i hi).2 with ⟨h, -⟩ | ⟨p, b, p1, b1, h, -⟩
      · left; rw [h]; exact (hT.2.2.2.2.1 i hi).1.1
      · right; omega
    have hl := hT.1 (K i) hk
    rw [hL] at hl
    have hl2 := lkd_at A _ hl
    rw [hx] at hl2
    have nd := hT.2.2.2.1 (K i)
    rw [hL] at nd
    cases C with
    | nil => exact Or.inl hl2
    | cons j C =>
      right
      obtain ⟨j1, j2, j3⟩ := hT.2.1 (K i) j (by rw [hL]; simp)
      have ndA := List.nodup_append.mp nd
      have iA : i ∉ A := fun z => ndA.2.2 i z i List.mem_cons_self rfl
      have jA : j ∉ A := fun z => ndA.2.2 j z j (List.mem_cons_of_mem _ List.mem_cons_self) rfl
      have ji : j ≠ i := fun z => by
        have := (List.nodup_cons.mp ndA.2.1).1
        rw [z] at this
        exact this List.mem_cons_self
      refine ⟨j, j1, hl2.1, j2, ?_, ?_⟩
      · unfold ixP
        rw [j2, hL, idx_at A iA, show A ++ i :: j :: C = (A ++ [i]) ++ j :: C by simp, idx_at (A ++ [i]) (by
          intro z
          rcases List.mem_append.mp z with z | z
          · exact jA z
          · exact ji (List.mem_singleton.mp z)), List.length_append]
        rfl
      · rw [hL, List.length_append]
        show A.length + (C.length + 1 + 1) ≥ 2
        omega
/-- a line inside an if is the first of its block -/
theorem ix_head (hT : CTp P nt N bl K th go) (hk : kyV nt N k) (hx : hdK (P 5) (P 20) (P 21) k = x) : x = -1 ∨ ∃ j, j < N ∧ x = nI j ∧ K j = k := by
  have hl := hT.1 k hk
  rw [hx] at hl
  cases hb : bl k with
  | nil => rw [hb] at hl; exact Or.inl hl
  | cons j C =>
    rw [hb] at hl
    obtain ⟨j1, j2, -⟩ := hT.2.1 k j (by rw [hb]; exact List.mem_cons_self)
    exact Or.inr ⟨j, j1, hl.1, j2⟩
theorem nI_neg (h : j < 2 ^ 31) : ¬ nI j < (0 : Int32) := by rw [n_gt (by decide) h]; omega
theorem ix_le (hF : FLp N bl K) (h : K i < 4) : ixP bl K i ≤ 8 := by
  have := hF.2.2 (K i) h
  have := List.idxOf_le_length (a := i) (l := bl (K i))
  unfold ixP
  omega
theorem rk_lt (hF : FLp N bl K) (hi : i < N) : rkP bl K i < 18 := by
  unfold rkP
  by_cases q : K i < 4
  · rw [if_pos q]
    have := ix_le hF q; omega
  · rw [if_neg q]
    have := ix_le hF ((hF.2.1 i hi).resolve_left q); omega
/-- behind a line -/
theorem bh_is (hT : CTp P nt N bl K th go) (hF : FLp N bl K) (hnt : nt ≤ 4) (hN : N ≤ 100) (h18 : ∀ i, i < N → P 7 i ≠ 18) (hi : i < N) : bhP P i = -1 ∨ ∃ j, j < N ∧ bhP P i = nI j ∧ th j = th i ∧ rkP bl K i < rkP bl K j := by
  have top : ∀ p, p < N → K p < 4 → K p = th p ∧ P 18 p = -1 := fun p hp h4 => by
    rcases (hT.2.2.2.2.1 p hp).2 with h | ⟨p', b, p1, b1, h, -⟩
    · exact h
    · omega
  -- a line of a thread's own block
  have step : ∀ p k, p < N → K p < 4 → bhS (P 17) (P 18) (P 7) (k + 1) p = -1 ∨ ∃ j, j < N ∧ bhS (P 17) (P 18) (P 7) (k + 1) p = nI j ∧ K j = K p ∧ ixP bl K j = ixP bl K p + 1 := fun p k hp h4 => by
    unfold bhS
    rcases ix_next hT hnt hN hp rfl with h | ⟨j, j1, j2, j3, j4, -⟩
    · left
      rw [if_pos (by rw [h]; decide), (top p hp h4).2, if_pos (by decide)]
    · right
      refine ⟨j, j1, ?_, j3, j4⟩
      rw [j2, if_neg (nI_neg (by omega))]
  by_cases q : K i < 4
  · rcases step i i hi q with h | ⟨j, j1, j2, j3, j4⟩
    · exact Or.inl h
    · refine Or.inr ⟨j, j1, j2, ?_, ?_⟩
      · rw [← (top j j1 (by omega)).1, ← (top i hi q).1, j3]
      · unfold rkP
        rw [if_pos q, if_pos (by omega), j4]; omega
  · rcases (hT.2.2.2.2.1 i hi).2 with ⟨h, -⟩ | ⟨p, b, p1, b1, h, h2, h3⟩
    · have := (hT.2.2.2.2.1 i hi).1.1; omega
    · have ep : (K i - 4) / 2 = p := by omega
      have q4 := (hF.2.1 i hi).resolve_left q
      rw [ep] at q4
      have n17 : P 17 i = -1 := by
        rcases ix_next hT hnt hN hi rfl with h | ⟨j, j1, j2, j3, j4, j5⟩
        · exact h
        · have := hF.1 (K i) (by omega); omega
      have e : bhP P i = bhS (P 17) (P 18) (P 7) i p := by
        show bhS (P 17) (P 18) (P 7) (i + 1) i = _
        rw [bhS, if_pos (by rw [n17]; decide), h2, if_neg (nI_neg (by omega)), n_clp (by omega), if_neg (h18 p (by omega))]
      obtain ⟨m, rfl⟩ : ∃ m, i = m + 1 := ⟨i - 1, by omega⟩
      rw [e]
      rcases step p m (by omega) q4 with h' | ⟨j, j1, j2, j3, j4⟩
      · exact Or.inl h'
      · refine Or.inr ⟨j, j1, j2, ?_, ?_⟩
        · rw [← h3, ← (top j j1 (by omega)).1, ← (top p (by omega) q4).1, j3]
        · unfold rkP
          rw [if_neg q, ep, if_pos (by omega), j4]; omega
/-- where a line goes on -/
theorem it_is (hT : CTp P nt N bl K th go) (hF : FLp N bl K) (hnt : nt ≤ 4) (hN : N ≤ 100) (h18 : ∀ i, i < N → P 7 i ≠ 18) (hi : i < N) (hx : x = itP P i ∨ x = elP P i) : x = -1 ∨ ∃ j, j < N ∧ x = nI j ∧ th j = th i ∧ rkP bl K i < rkP bl K j := by
  have sub : ∀ b, b < 2 → ∀ y, hdK (P 5) (P 20) (P 21) (4 + 2 * i + b) = y → ¬ y < 0 → ∃ j, j < N ∧ y = nI j ∧ th j = th i ∧ rkP bl K i < rkP bl K j := fun b hb y hy h0 => by
    rcases ix_head hT (k := 4 + 2 * i + b) (by unfold kyV; right; omega) hy with h | ⟨j, j1, j2, j3⟩
    · exact absurd (by rw [h]; decide) h0
    · refine ⟨j, j1, j2, ?_, ?_⟩
      · rcases (hT.2.2.2.2.1 j j1).2 with ⟨h, -⟩ | ⟨p, b', p1, b1, h, h2, h3⟩
        · have := (hT.2.2.2.2.1 j j1).1.1; omega
        · rw [← h3, show p = i by omega]
      · have q4 := (hF.2.1 j j1).resolve_left (by omega)
        rw [show (K j - 4) / 2 = i by omega] at q4
        unfold rkP
        rw [if_pos q4, if_neg (by omega), show (K j - 4) / 2 = i by omega]; omega
  rcases hx with rfl | rfl
  · by_cases q : P 20 i < 0
    · have e : itP P i = bhP P i := by
        show (if _ then _ else _) = _
        rw [if_pos q, if_neg (h18 i hi)]
      rw [e]; exact bh_is hT hF hnt hN h18 hi
    · have e : itP P i = P 20 i := if_neg q
      rw [e]
      refine Or.inr (sub 0 (by decide) _ ?_ q)
      rw [show 4 + 2 * i + 0 = 4 + 2 * i from rfl, hdK_c]
  · by_cases q : P 21 i < 0
    · have e : elP P i = bhP P i := if_pos q
      rw [e]; exact bh_is hT hF hnt hN h18 hi
    · have e : elP P i = P 21 i := if_neg q
      rw [e]
      refine Or.inr (sub 1 (by decide) _ ?_ q)
      rw [show 4 + 2 * i + 1 = 5 + 2 * i by omega, hdK_o]
end RNK
