/-! REWRITINGS, the class's own: the other side as a ghost. -/
def m2 (x : Int32) : Int32 := if x = -1 then -2 else x
def ghT (s : qS) : qS := (fun a k => if a = 171 then m2 (s.1 53 (k - 100)) else if a = 181 then m2 (s.1 41 (k - 4)) else if a = 172 then m2 (s.1 56 (k - 100)) else if a = 173 then m2 (s.1 57 (k - 100)) else if a = 165 then s.1 44 (k - 100) else if a = 169 then m2 (s.1 54 (k - 100)) else if a = 170 then s.1 55 (k - 100) else if a = 175 then s.1 60 (k - 100) else if a = 164 then s.1 43 (k - 100) else 0, fun _ _ => 0, fun _ _ => 0)
/-- the rewritten program's rows where the other's are -/
def shS (s : qS) : qS := (fun a => s.1 (a + 25), s.2)
section GHO
variable {nt N i k : Nat} {bl : Nat → List Nat} {K th : Nat → Nat} {go : Nat → Bool} {s t : qS} {f f' g h2 : fI} {h : Int32}
theorem m2_nI (hi : i < 2 ^ 31) : m2 (nI i) = nI i := if_neg (fun z => m1_nI rfl hi z.symm)
theorem lkd_m2 : ∀ (L : List Nat) (h : Int32), (∀ a, a ∈ L → a < 2 ^ 31) → (∀ a, a ∈ L → f' a = m2 (f a)) → lkd f (-1) h L → lkd f' (-2) (m2 h) L := by
  intro L
  induction L with
  | nil =>
    intro h _ _ hl
    have hl : h = -1 := hl
    show m2 h = -2
    rw [hl]; rfl
  | cons a L ih =>
    intro h h1 h2 hl
    obtain ⟨l1, l2⟩ := hl
    refine ⟨by rw [l1]; exact m2_nI (h1 a List.mem_cons_self), ?_⟩
    rw [h2 a List.mem_cons_self]
    exact ih _ (fun b hb => h1 b (List.mem_cons_of_mem _ hb)) (fun b hb => h2 b (List.mem_cons_of_mem _ hb)) l2
theorem gh_171 {j : Nat} : (ghT s).1 171 (100 + j) = m2 (s.1 53 j) := by
  show m2 (s.1 53 (100 + j - 100)) = _
  rw [Nat.add_sub_cancel_left]
theorem gh_hd : hdK (fun j => (ghT s).1 181 (4 + j)) (fun j => (ghT s).1 172 (100 + j)) (fun j => (ghT s).1 173 (100 + j)) k = m2 (hdK (s.1 41) (s.1 56) (s.1 57) k) := by
  unfold hdK
  by_cases q : k < 4
  · rw [if_pos q, if_pos q]
    show m2 (s.1 41 (4 + k - 4)) = _
    rw [Nat.add_sub_cancel_left]
  · rw [if_neg q, if_neg q]
    by_cases q2 : (k - 4) % 2 = 0
    · rw [if_pos q2, if_pos q2]
      show m2 (s.1 56 (100 + (k - 4) / 2 - 100)) = _
      rw [Nat.add_sub_cancel_left]
    · rw [if_neg q2, if_neg q2]
      show m2 (s.1 57 (100 + (k - 4) / 2 - 100)) = _
      rw [Nat.add_sub_cancel_left]
theorem TG_gh (h : TRs (shS s) nt N bl K th) (hN : N ≤ 100) : TG s (ghT s) nt N K th bl (fun _ => false) := by
  obtain ⟨h1, h2, h3, h4, h5, h6⟩ := h
  have e : ∀ (a j : Nat), 100 + j - 100 = j := fun a j => by omega
  refine ⟨fun k hk => ⟨h1 k hk, ?_⟩, fun k i hi => ⟨(h2 k i hi).1, (h2 k i hi).2, rfl⟩, fun i hi _ => h3 i hi, h4, fun i hi => ?_, fun i hi => ?_, fun p hp hne => ?_⟩
  · rw [gh_hd]
    exact lkd_m2 _ _ (fun a ha => by have := (h2 k a ha).1; omega) (fun a _ => gh_171) (h1 k hk)
  · obtain ⟨⟨t1, t2⟩, t3, -⟩ := h5 i hi
    refine ⟨⟨t1, t2, ?_⟩, ?_⟩
    · show s.1 44 (100 + i - 100) = _
      rw [e 0]; exact t2
    · rcases t3 with ⟨k1, k2⟩ | ⟨p, b, k1, k2, k3, k4, k5, k6⟩
      · refine Or.inl ⟨k1, k2, ?_⟩
        show m2 (s.1 54 (100 + i - 100)) = _
        rw [e 0, show s.1 54 i = -1 from k2]; rfl
      · refine Or.inr ⟨p, b, k1, k2, k3, k4, ?_, k5, k6, ?_⟩
        · show m2 (s.1 54 (100 + i - 100)) = _
          rw [e 0, show s.1 54 i = nI p from k4]; exact m2_nI (by omega)
        · show s.1 55 (100 + i - 100) = _
          rw [e 0]; exact k6
  · obtain ⟨-, -, t3⟩ := h5 i hi
    refine ⟨t3, ?_, fun z => Bool.noConfusion z⟩
    show s.1 60 (100 + i - 100) = _
    rw [e 0]; exact t3
  · show s.1 43 (100 + p - 100) = _
    rw [e 0]; exact h6 p hp hne
theorem CTp_TG (h : TG s t nt N K th bl go) : CTp (rdP s 36) nt N bl K th go := by
  obtain ⟨h1, h2, h3, h4, h5, h6, -⟩ := h
  refine ⟨fun k hk => (h1 k hk).1, h2, h3, h4, fun i hi => ?_, fun i hi hg => ((h6 i hi).2.2 hg).1⟩
  obtain ⟨⟨t1, t2, -⟩, t3⟩ := h5 i hi
  refine ⟨⟨t1, t2⟩, ?_⟩
  rcases t3 with ⟨k1, k2, -⟩ | ⟨p, b, k1, k2, k3, k4, -, k5, -⟩
  · exact Or.inl ⟨k1, k2⟩
  · exact Or.inr ⟨p, b, k1, k2, k3, k4, k5⟩
end GHO
