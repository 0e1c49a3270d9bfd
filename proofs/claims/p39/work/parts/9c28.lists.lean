/-! REWRITINGS: blocks as lists. -/
section LST
variable {f f' : fI} {nn h h' : Int32} {i j : Nat} {C : List Nat}
theorem lst_len : ∀ (N : Nat) (L : List Nat), L.Nodup → (∀ x, x ∈ L → x < N) → L.length ≤ N
  | 0, L, _, h => by
    cases L with
    | nil => exact Nat.le_refl 0
    | cons a L => exact absurd (h a List.mem_cons_self) (Nat.not_lt_zero a)
  | N + 1, L, hn, h => by
    by_cases q : N ∈ L
    · have h1 := lst_len N (L.erase N) (hn.erase N) (fun x hx => by
        have h2 := (hn.mem_erase_iff).mp hx
        have := h x h2.2
        have := h2.1
        omega)
      rw [List.length_erase_of_mem q] at h1
      omega
    · have := lst_len N L hn (fun x hx => by
        have := h x hx
        have : x ≠ N := fun z => q (z ▸ hx)
        omega)
      omega
theorem lkd_tail : ∀ (C : List Nat) (x : Nat) (h : Int32), lkd f nn h (x :: C) → ∀ k, k ∈ x :: C → f k = nn ∨ ∃ j, j ∈ C ∧ f k = nI j
  | [], x, h, hl, k, hk => by
    rw [List.mem_singleton.mp hk]
    exact Or.inl hl.2
  | y :: C, x, h, hl, k, hk => by
    rcases List.mem_cons.mp hk with rfl | hk
    · exact Or.inr ⟨y, List.mem_cons_self, hl.2.1⟩
    · rcases lkd_tail C y (f x) hl.2 k hk with g | ⟨j, g1, g2⟩
      · exact Or.inl g
      · exact Or.inr ⟨j, List.mem_cons_of_mem _ g1, g2⟩
/-- what stands before i -/
theorem lkd_prv (hi : i < 2 ^ 31) (hnn : nn ≠ nI i) : ∀ (A : List Nat) (h : Int32), lkd f nn h (A ++ i :: C) → (A ++ i :: C).Nodup → (∀ x, x ∈ A ++ i :: C → x < 2 ^ 31) → ∀ k, k ∈ A ++ i :: C → (f k = nI i ↔ A.getLast? = some k)
  | [], h, hl, hn, hb, k, hk => by
    refine ⟨fun g => ?_, fun g => by cases g⟩
    exfalso
    rcases lkd_tail C i h hl k hk with g1 | ⟨j, g1, g2⟩
    · exact hnn (g1.symm.trans g)
    · have e : nI j = nI i := g2.symm.trans g
      rw [n_EQ (hb j (List.mem_cons_of_mem _ g1)) hi] at e
      rw [e] at g1
      exact (List.nodup_cons.mp hn).1 g1
  | a :: A, h, hl, hn, hb, k, hk => by
    have hn' := List.nodup_cons.mp hn
    have ih := lkd_prv hi hnn A (f a) hl.2 hn'.2 (fun x hx => hb x (List.mem_cons_of_mem _ hx))
    rcases List.mem_cons.mp hk with rfl | hk
    · cases A with
      | nil => exact ⟨fun _ => rfl, fun _ => hl.2.1⟩
      | cons b A =>
        have e1 : f k = nI b := hl.2.1
        refine ⟨fun g => ?_, fun g => ?_⟩
        · exfalso
          have e : nI b = nI i := e1.symm.trans g
          rw [n_EQ (hb b (by simp)) hi] at e
          have : b ∉ A ++ i :: C := (List.nodup_cons.mp hn'.2).1
          exact this (by rw [e]; simp)
        · exfalso
          rw [List.getLast?_cons_cons] at g
          have := List.mem_of_getLast? g
          exact hn'.1 (List.mem_append_left _ this)
    · have hne : k ≠ a := fun z => hn'.1 (z ▸ hk)
      rw [ih k hk]
      cases A with
      | nil =>
        refine ⟨fun g => (by cases g), fun g => ?_⟩
        have : a = k := by injection g
        exact absurd this.symm hne
      | cons b A => rw [List.getLast?_cons_cons]
/-- i leaves its block -/
theorem lkd_rem : ∀ (A : List Nat) (h h' : Int32), lkd f nn h (A ++ i :: C) → (A ++ i :: C).Nodup → (∀ a, a ≠ i → A.getLast? ≠ some a → f' a = f a) → (∀ l, A.getLast? = some l → f' l = f i) → (h' = if A = [] then f i else h) → lkd f' nn h' (A ++ C)
  | [], h, h', hl, hn, g1, g2, g3 => by
    rw [if_pos rfl] at g3
    rw [g3]
    exact lkd_cg C (f i) hl.2 (fun a ha => g1 a (fun z => (List.nodup_cons.mp hn).1 (z ▸ ha)) (fun z => by cases z))
  | a :: A, h, h', hl, hn, g1, g2, g3 => by
    rw [if_neg (by simp)] at g3
    rw [g3]
    have hn' := List.nodup_cons.mp hn
    refine ⟨hl.1, ?_⟩
    cases A with
    | nil =>
      rw [g2 a rfl]
      refine lkd_cg C (f i) hl.2.2 (fun x hx => g1 x (fun z => (List.nodup_cons.mp hn'.2).1 (z ▸ hx)) (fun z => ?_))
      have : a = x := by injection z
      exact hn'.1 (this ▸ List.mem_append_right _ (List.mem_cons_of_mem _ hx))
    | cons b A =>
      have ea : f' a = f a := g1 a (fun z => hn'.1 (z ▸ by simp)) (fun z => by
        rw [List.getLast?_cons_cons] at z
        exact hn'.1 (List.mem_append_left _ (List.mem_of_getLast? z)))
      rw [ea]
      exact lkd_rem (b :: A) (f a) (f a) hl.2 hn'.2 (fun x h1 h2 => g1 x h1 (by rw [List.getLast?_cons_cons]; exact h2)) (fun l hl' => g2 l (by rw [List.getLast?_cons_cons]; exact hl')) (by rw [if_neg (by simp)])
/-- i and j change places -/
theorem lkd_swap : ∀ (A : List Nat) (h h' : Int32), lkd f nn h (A ++ i :: j :: C) → (A ++ i :: j :: C).Nodup → (∀ a, a ≠ i → a ≠ j → A.getLast? ≠ some a → f' a = f a) → (∀ l, A.getLast? = some l → f' l = nI j) → f' j = nI i → f' i = f j → (h' = if A = [] then nI j else h) → lkd f' nn h' (A ++ j :: i :: C)
  | [], h, h', hl, hn, g1, g2, g4, g5, g3 => by
    rw [if_pos rfl] at g3
    have n1 := List.nodup_cons.mp hn
    have n2 := List.nodup_cons.mp n1.2
    refine ⟨g3, g4, ?_⟩
    rw [g5]
    exact lkd_cg C (f j) hl.2.2 (fun a ha => g1 a (fun z => n1.1 (z ▸ List.mem_cons_of_mem _ ha)) (fun z => n2.1 (z ▸ ha)) (fun z => by cases z))
  | a :: A, h, h', hl, hn, g1, g2, g4, g5, g3 => by
    rw [if_neg (by simp)] at g3
    rw [g3]
    have hn' := List.nodup_cons.mp hn
    refine ⟨hl.1, ?_⟩
    cases A with
    | nil =>
      have n1 := List.nodup_cons.mp hn'.2
      have n2 := List.nodup_cons.mp n1.2
      rw [g2 a rfl]
      refine ⟨rfl, g4, ?_⟩
      rw [g5]
      refine lkd_cg C (f j) hl.2.2.2 (fun x hx => g1 x (fun z => n1.1 (z ▸ List.mem_cons_of_mem _ hx)) (fun z => n2.1 (z ▸ hx)) (fun z => ?_))
      have : a = x := by injection z
      exact hn'.1 (this ▸ List.mem_append_right _ (List.mem_cons_of_mem _ (List.mem_cons_of_mem _ hx)))
    | cons b A =>
      have ea : f' a = f a := g1 a (fun z => hn'.1 (z ▸ by simp)) (fun z => hn'.1 (z ▸ by simp)) (fun z => by
        rw [List.getLast?_cons_cons] at z
        exact hn'.1 (List.mem_append_left _ (List.mem_of_getLast? z)))
      rw [ea]
      exact lkd_swap (b :: A) (f a) (f a) hl.2 hn'.2 (fun x h1 h2 h3 => g1 x h1 h2 (by rw [List.getLast?_cons_cons]; exact h3)) (fun l hl' => g2 l (by rw [List.getLast?_cons_cons]; exact hl')) g4 g5 (by rw [if_neg (by simp)])
theorem lkd_at : ∀ (A : List Nat) (h : Int32), lkd f nn h (A ++ i :: C) → lkd f nn (f i) C
  | [], _, hl => hl.2
  | a :: A, _, hl => lkd_at A (f a) hl.2
end LST

