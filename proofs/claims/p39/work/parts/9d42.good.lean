/-! PROGRAMS BY THEIR TREE: they are good. -/
/-- an expression of line i -/
abbrev EXp (P : Nat → fI) (i r t lc : Nat) : Prop := ∃ a e, P (7 + r) i = nI a ∧ P (8 + r) i = nI e ∧ e ≤ lmN P ∧ EXG (P 25) (P 26) t lc a e
/-- line i of thread t, which has lc locals -/
abbrev LFp (P : Nat → fI) (nc nl i t lc : Nat) : Prop := (∃ k, P 7 i = nI k ∧ (k < 19 ∧ okK k) ∧ (1 ≤ k → k ≤ 4 → ∃ o, o < nc ∧ P 9 i = nI o) ∧ (5 ≤ k → k ≤ 9 → ∃ o, o < nl ∧ P 9 i = nI o)) ∧ ((P 10 i = -2 ∧ P 7 i ≠ 1) ∨ ∃ j, j < lc ∧ P 10 i = nI j) ∧ EXp P i 5 t lc ∧ EXp P i 7 t lc
/-- how many lines of thread t touch cells -/
def tcP (P : Nat → fI) (N t : Nat) : Nat := smN (fun i => if P 8 i = nI t ∧ (1 ≤ kd P i ∧ kd P i ≤ 4) then 1 else 0) N
/-- a program such as the law's -/
abbrev PRG (P : Nat → fI) (nc nl N : Nat) (lc : Nat → Nat) (bl : Nat → List Nat) (K th : Nat → Nat) (go : Nat → Bool) : Prop :=
  ((P 0 9 = nI nc ∧ nc ≤ 8) ∧ (P 0 10 = nI nl ∧ nl ≤ 4) ∧ (P 0 11 = nI 2 ∧ P 0 8 = 0) ∧ P 0 12 = nI N ∧ N ≤ 100) ∧ CTp P 2 N bl K th go ∧ FLp N bl K ∧ (∀ i, i < N → LFp P nc nl i (th i) (lc (th i))) ∧ (∀ i, i < N → P 22 i = itP P i ∧ P 23 i = elP P i) ∧ (∀ t, t < 2 → P 3 t = nI (lc t) ∧ lc t ≤ 2) ∧ (∀ c, c < nc → inR (P 4 c)) ∧ ∀ t, t < 2 → tcP P N t ≤ 2
section GOD
variable {P : Nat → fI} {nc nl N i j k t n top r : Nat} {bl : Nat → List Nat} {K th lc : Nat → Nat} {go : Nat → Bool} {O Q : fI} {W W' : Nat}
theorem dpk_mo (hW : W ≤ W') : ∀ (n i top : Nat), dpk O Q W n i top → dpk O Q W' n i top := by
  intro n
  induction n with
  | zero => intro _ _ _; trivial
  | succ n ih =>
    intro i top h
    obtain ⟨⟨k, k1, k2, k3, k4, k5⟩, h2⟩ := h
    refine ⟨⟨k, k1, k2, k3, fun z => ?_, fun z => ?_⟩, ih _ _ h2⟩
    · obtain ⟨q, q1, q2⟩ := k4 z
      exact ⟨q, q1, by omega⟩
    · obtain ⟨q, q1, q2⟩ := k5 z
      exact ⟨q, q1, by omega⟩
theorem EXp_ok (h : EXp P i r t n) (hl : lmN P ≤ 500) : expOK P r i ∧ dpk (P 25) (P 26) 233 (clp (P (8 + r) i) - clp (P (7 + r) i)) (clp (P (7 + r) i)) 0 ∧ ∀ j, clp (P (7 + r) i) ≤ j → j < clp (P (8 + r) i) → (P 25 j = nI 2 → ∃ k, k < n ∧ P 26 j = nI (16 + t * 6 + k)) ∧ P 25 j ≠ nI 3 := by
  obtain ⟨a, e, a1, a2, a3, a4⟩ := h
  have := a4.1
  refine ⟨⟨a, e, a1, a2, a4.1, a3, dpk_mo (by decide) _ _ _ a4.2.1⟩, ?_, ?_⟩
  · rw [a1, a2, n_clp (by omega), n_clp (by omega)]; exact a4.2.1
  · rw [a1, a2, n_clp (by omega), n_clp (by omega)]; exact a4.2.2
theorem PRG_18 (h : PRG P nc nl N lc bl K th go) : ∀ i, i < N → P 7 i ≠ 18 := fun i hi z => by
  obtain ⟨⟨k, k1, k2, -⟩, -⟩ := h.2.2.2.1 i hi
  rw [k1] at z
  have := (nI_eq (by omega) (by decide)).mp (show nI k = nI 18 from z)
  omega
theorem PRG_good (h : PRG P nc nl N lc bl K th go) (hl : lmN P ≤ 500) : GP P nc nl N ∧ RK P N (rkP bl K) 18 ∧ cT P N (rkP bl K) 0 0 + cT P N (rkP bl K) 1 0 ≤ 4 := by
  have h18 := PRG_18 h
  obtain ⟨⟨c1, c2, c3, c4, c5⟩, hT, hF, hL, hW, hC, hV, hS⟩ := h
  have tg : ∀ i, i < N → ∀ x, x = P 22 i ∨ x = P 23 i → x = -1 ∨ ∃ j, j < N ∧ x = nI j ∧ th j = th i ∧ rkP bl K i < rkP bl K j := fun i hi x hx => it_is hT hF (by decide) c5 h18 hi (by
    rcases hx with rfl | rfl
    · exact Or.inl (hW i hi).1
    · exact Or.inr (hW i hi).2)
  have gV : ∀ i, i < N → ∀ x, x = P 22 i ∨ x = P 23 i → goV P N (th i) x := fun i hi x hx => by
    rcases tg i hi x hx with h | ⟨j, j1, j2, j3, -⟩
    · exact Or.inl h
    · exact Or.inr ⟨j, j2, j1, by rw [(hT.2.2.2.2.1 j j1).1.2, j3]⟩
  have kdE : ∀ i, i < N → ∀ k, k < 19 → P 7 i = nI k → kd P i = k := fun i hi k hk e => by
    show clp (P 7 i) = k
    rw [e, n_clp (by omega)]
  have lctE : ∀ t, t < 2 → lct P t = lc t := fun t ht => by
    show clp (P 3 t) = lc t
    rw [(hC t ht).1, n_clp (by have := (hC t ht).2; omega)]
  refine ⟨⟨⟨⟨c1.1, c1.2⟩, ⟨c2.1, c2.2⟩, ⟨c3.1, by decide⟩, ⟨c4, c5⟩, fun i hi => ?_, fun t ht => ?_⟩, fun i hi r hr => ?_, fun i hi => ?_, fun i t hi ht ht2 => ?_, hV⟩, ⟨fun i hi => rk_lt hF hi, fun i j hi hj hx => ?_⟩, ?_⟩
  · obtain ⟨⟨k, k1, k2, k3, k4⟩, l1, x1, x2⟩ := hL i hi
    have ek := kdE i hi k k2.1 k1
    obtain ⟨⟨t1, t2⟩, -⟩ := hT.2.2.2.2.1 i hi
    refine ⟨⟨by rw [ek]; exact k1, by rw [ek]; exact k2.1⟩, ⟨th i, t1, t2, gV i hi _ (Or.inl rfl), gV i hi _ (Or.inr rfl), ?_⟩, fun h1 h2 => ?_, fun h1 h2 => ?_, fun h1 => ?_, (EXp_ok x1 hl).1, (EXp_ok x2 hl).1⟩
    · rcases l1 with l1 | ⟨j, j1, j2⟩
      · exact Or.inl l1.1
      · exact Or.inr ⟨j, j2, by rw [lctE _ t1]; exact j1⟩
    · rw [ek] at h1 h2
      obtain ⟨o, o1, o2⟩ := k3 h1 h2
      have eo : ob P i = o := by
        show clp (P 9 i) = o
        rw [o2, n_clp (by omega)]
      rw [eo]; exact ⟨o2, o1⟩
    · rw [ek] at h1 h2
      obtain ⟨o, o1, o2⟩ := k4 h1 h2
      have eo : ob P i = o := by
        show clp (P 9 i) = o
        rw [o2, n_clp (by omega)]
      rw [eo]; exact ⟨o2, o1⟩
    · rw [ek] at h1
      have := k2.2
      unfold okK at this
      omega
  · refine ⟨?_, by rw [lctE t ht]; exact (hC t ht).1, by rw [lctE t ht]; have := (hC t ht).2; omega⟩
    rcases ix_head hT (k := t) (Or.inl ht) (hdK_t (by omega)) with h | ⟨j, j1, j2, j3⟩
    · exact Or.inl h
    · refine Or.inr ⟨j, j2, j1, ?_⟩
      obtain ⟨⟨t1, t2⟩, h5⟩ := hT.2.2.2.2.1 j j1
      rcases h5 with ⟨h5, -⟩ | ⟨p, b, p1, b1, h5, -⟩
      · rw [t2, ← h5, j3]
      · omega
  · obtain ⟨-, -, x1, x2⟩ := hL i hi
    rcases hr with rfl | rfl
    · exact (EXp_ok x1 hl).2.1
    · exact (EXp_ok x2 hl).2.1
  · obtain ⟨⟨k, k1, k2, -⟩, -⟩ := hL i hi
    rw [kdE i hi k k2.1 k1]; exact k2.2
  · obtain ⟨⟨t1, t2⟩, -⟩ := hT.2.2.2.2.1 i hi
    have et : th i = t := (nI_eq (by omega) (by omega)).mp (t2.symm.trans ht)
    obtain ⟨-, -, x1, x2⟩ := hL i hi
    rw [et] at x1 x2
    have hlc := (hC t ht2).2
    intro r hr j h1 h2
    rcases hr with rfl | rfl
    · obtain ⟨e1, e2⟩ := (EXp_ok x1 hl).2.2 j h1 h2
      refine ⟨fun z => ?_, e2⟩
      obtain ⟨k, q1, q2⟩ := e1 z
      exact ⟨k, by omega, q2⟩
    · obtain ⟨e1, e2⟩ := (EXp_ok x2 hl).2.2 j h1 h2
      refine ⟨fun z => ?_, e2⟩
      obtain ⟨k, q1, q2⟩ := e1 z
      exact ⟨k, by omega, q2⟩
  · obtain ⟨x, ex, hx'⟩ : ∃ x, (x = P 22 i ∨ x = P 23 i) ∧ x = nI j := by
      rcases hx with h | h
      · exact ⟨_, Or.inl rfl, h⟩
      · exact ⟨_, Or.inr rfl, h⟩
    rcases tg i hi x ex with h | ⟨j', j1, j2, j3, j4⟩
    · exact absurd (h.symm.trans hx') (m1_nI rfl (by omega))
    · have : j' = j := (nI_eq (by omega) (by omega)).mp (j2.symm.trans hx')
      rw [← this]; exact j4
  · have e : ∀ t, cT P N (rkP bl K) t 0 = tcP P N t := fun t => smN_cg (fun i hi => by
      by_cases q : P 8 i = nI t ∧ (1 ≤ kd P i ∧ kd P i ≤ 4)
      · rw [if_pos q, if_pos ⟨q.1, q.2, Nat.zero_le _⟩]
      · rw [if_neg q, if_neg (fun z => q ⟨z.1, z.2.1⟩)])
    rw [e, e]
    have h0 := hS 0 (by decide)
    have h1 := hS 1 (by decide)
    omega
end GOD
