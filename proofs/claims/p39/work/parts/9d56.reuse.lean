/-! REWRITINGS, the class's own: a value read before is used again. -/
section REC
variable {en : pN} {d nc nl N i j k : Nat} {bl : Nat → List Nat} {K th lc0 : Nat → Nat} {go : Nat → Bool} {s s' t : qS} {A C : List Nat}
/-- a line that uses a value again -/
theorem PRGw_ru (h : PRGw (rdP s 36) nc nl N lc0 bl K th go) (hi : i < N) (hth : th i < 2) (hk : k < lc0 (th i)) (h1 : s.1 43 i = 1) (h4 : ∀ i, i < N → ∀ r, r = 13 ∨ r = 15 → ∃ e, s.1 (36 + r) i = nI e ∧ e ≤ 400) : PRGw (rdP (ruX s i (nI (16 + th i * 6 + k))) 36) nc nl N lc0 bl K th go := by
  have lck := (h.2.2.2.2.1 (th i) hth).2
  have hN := h.1.2.2.2.2
  have r : ∀ a, a ≠ 7 → a ≠ 9 → a ≠ 12 → a ≠ 13 → a ≠ 25 → a ≠ 26 → rdP (ruX s i (nI (16 + th i * 6 + k))) 36 a = rdP s 36 a := fun a h1 h2 h3 h4 h5 h6 => by
    unfold rdP
    rw [if_neg h5, if_neg h6, if_neg h5, if_neg h6, ruX_o (a := 36 + a) (by omega) (by omega) (by omega) (by omega) (by omega) (by omega)]
  have rn : ∀ a, a = 7 ∨ a = 9 ∨ a = 12 ∨ a = 13 → ∀ j, j ≠ i → rdP (ruX s i (nI (16 + th i * 6 + k))) 36 a j = rdP s 36 a j := fun a ha j hj => by
    rcases ha with rfl | rfl | rfl | rfl
    · exact ruX_n hj (by decide)
    · exact ruX_n hj (by decide)
    · exact ruX_n hj (by decide)
    · exact ruX_n hj (by decide)
  have nd : ∀ j, j ≠ 400 + i → rdP (ruX s i (nI (16 + th i * 6 + k))) 36 25 j = rdP s 36 25 j ∧ rdP (ruX s i (nI (16 + th i * 6 + k))) 36 26 j = rdP s 36 26 j := fun j hj => ⟨(ruX_89 (z := nI (16 + th i * 6 + k))).1.trans (if_neg hj), (ruX_89 (z := nI (16 + th i * 6 + k))).2.trans (if_neg hj)⟩
  have ni : rdP (ruX s i (nI (16 + th i * 6 + k))) 36 25 (400 + i) = nI 2 ∧ rdP (ruX s i (nI (16 + th i * 6 + k))) 36 26 (400 + i) = nI (16 + th i * 6 + k) := ⟨(ruX_89 (z := nI (16 + th i * 6 + k))).1.trans (if_pos rfl), (ruX_89 (z := nI (16 + th i * 6 + k))).2.trans (if_pos rfl)⟩
  have lm : ∀ s : qS, lmN (rdP s 36) = 500 := fun s => lm_rd
  -- expressions that lie below 400
  have ex : ∀ i', i' < N → ∀ q, (q = 5 ∨ q = 7) → ∀ t lc1, (q = 5 → i' ≠ i) → EXp (rdP s 36) i' q t lc1 → EXp (rdP (ruX s i (nI (16 + th i * 6 + k))) 36) i' q t lc1 := fun i' hi' q hq t lc1 hne hx => by
    obtain ⟨a, e, x1, x2, x3, x4⟩ := hx
    have e4 : e ≤ 400 := by
      obtain ⟨e', y1, y2⟩ := h4 i' hi' (8 + q) (by omega)
      have y3 : s.1 (36 + (8 + q)) i' = nI e := by
        rcases hq with rfl | rfl
        · exact x2
        · exact x2
      rw [lm] at x3
      have : e = e' := (nI_eq (by omega) (by omega)).mp (y3.symm.trans y1)
      omega
    refine ⟨a, e, ?_, ?_, by rw [lm]; omega, EXG_ag x4 (fun j hj => nd j (by omega))⟩
    · rcases hq with rfl | rfl
      · exact (rn 12 (by decide) i' (hne rfl)).trans x1
      · rw [r 14 (by decide) (by decide) (by decide) (by decide) (by decide) (by decide)]; exact x1
    · rcases hq with rfl | rfl
      · exact (rn 13 (by decide) i' (hne rfl)).trans x2
      · rw [r 15 (by decide) (by decide) (by decide) (by decide) (by decide) (by decide)]; exact x2
  refine ⟨?_, ?_, h.2.2.1, fun i' hi' => ?_, fun t ht => ?_, fun c hc => ?_, fun t ht => ?_⟩
  · rw [r 0 (by decide) (by decide) (by decide) (by decide) (by decide) (by decide)]; exact h.1
  · unfold CTp
    rw [r 17 (by decide) (by decide) (by decide) (by decide) (by decide) (by decide), r 5 (by decide) (by decide) (by decide) (by decide) (by decide) (by decide), r 20 (by decide) (by decide) (by decide) (by decide) (by decide) (by decide), r 21 (by decide) (by decide) (by decide) (by decide) (by decide) (by decide), r 8 (by decide) (by decide) (by decide) (by decide) (by decide) (by decide), r 18 (by decide) (by decide) (by decide) (by decide) (by decide) (by decide)]
    exact h.2.1
  · obtain ⟨⟨k0, k1, k2, k3, k4⟩, l1, x1, x2⟩ := h.2.2.2.1 i' hi'
    by_cases q : i' = i
    · subst q
      obtain ⟨u1, u2, u3, u4⟩ := ruX_i (s := s) (i := i') (z := nI (16 + th i' * 6 + k))
      refine ⟨⟨0, u1, ⟨by decide, by decide⟩, fun z => absurd z (by decide), fun z => absurd z (by decide)⟩, ?_, ⟨400 + i', 400 + i' + 1, u3, u4, by rw [lm]; omega, EXG_1 (k := 2) (by decide) rfl (by decide) ni.1 (fun _ => ⟨k, hk, ni.2⟩) (by omega)⟩, ex i' hi' 7 (Or.inr rfl) _ _ (fun z => absurd z (by decide)) x2⟩
      rcases l1 with ⟨l1, l2⟩ | l1
      · exact absurd h1 l2
      · right
        rw [r 10 (by decide) (by decide) (by decide) (by decide) (by decide) (by decide)]; exact l1
    · refine ⟨⟨k0, (rn 7 (by decide) i' q).trans k1, k2, ?_, ?_⟩, ?_, ex i' hi' 5 (Or.inl rfl) _ _ (fun _ => q) x1, ex i' hi' 7 (Or.inr rfl) _ _ (fun z => absurd z (by decide)) x2⟩
      · rw [rn 9 (by decide) i' q]; exact k3
      · rw [rn 9 (by decide) i' q]; exact k4
      · rw [rn 7 (by decide) i' q, r 10 (by decide) (by decide) (by decide) (by decide) (by decide) (by decide)]; exact l1
  · rw [r 3 (by decide) (by decide) (by decide) (by decide) (by decide) (by decide)]; exact h.2.2.2.2.1 t ht
  · rw [r 4 (by decide) (by decide) (by decide) (by decide) (by decide) (by decide)]; exact h.2.2.2.2.2.1 c hc
  · refine Nat.le_trans (smN_le N (fun j hj => ?_)) (h.2.2.2.2.2.2 t ht)
    show (if rdP (ruX s i _) 36 8 j = nI t ∧ (1 ≤ clp (rdP (ruX s i _) 36 7 j) ∧ clp (rdP (ruX s i _) 36 7 j) ≤ 4) then 1 else 0) ≤ if rdP s 36 8 j = nI t ∧ (1 ≤ clp (rdP s 36 7 j) ∧ clp (rdP s 36 7 j) ≤ 4) then 1 else 0
    rw [r 8 (by decide) (by decide) (by decide) (by decide) (by decide) (by decide)]
    by_cases q : j = i
    · subst q
      obtain ⟨u1, -⟩ := ruX_i (s := s) (i := j) (z := nI (16 + th j * 6 + k))
      have u1' : rdP (ruX s j (nI (16 + th j * 6 + k))) 36 7 j = 0 := u1
      rw [u1', if_neg (fun z => absurd z.2.1 (by decide))]
      exact Nat.zero_le _
    · rw [rn 7 (by decide) j q]
      exact Nat.le_refl _
end REC
