/-! REWRITINGS: lines exchanged, left out, on both sides. -/
section SWP
variable {en : pN} {d d' k i n N j r v u m nc nl nt key a : Nat} {th K : Nat → Nat} {bl : Nat → List Nat} {go go' : Nat → Bool} {s s' t t' : qS} {A C L' : List Nat} {z : Int32} {lo : Option Nat} {nn h : Int32}
theorem TG_upd (hG : TG s t nt N K th bl go) (hx : ∀ k, kyV nt N k → k ≠ key → (∀ a, a ∈ bl k → s'.1 53 a = s.1 53 a ∧ t'.1 171 (100 + a) = t.1 171 (100 + a)) ∧ hdK (s'.1 41) (s'.1 56) (s'.1 57) k = hdK (s.1 41) (s.1 56) (s.1 57) k ∧ hdK (fun j => t'.1 181 (4 + j)) (fun j => t'.1 172 (100 + j)) (fun j => t'.1 173 (100 + j)) k = hdK (fun j => t.1 181 (4 + j)) (fun j => t.1 172 (100 + j)) (fun j => t.1 173 (100 + j)) k) (hL : kyV nt N key → lkd (s'.1 53) (-1) (hdK (s'.1 41) (s'.1 56) (s'.1 57) key) L' ∧ lkd (fun j => t'.1 171 (100 + j)) (-2) (hdK (fun j => t'.1 181 (4 + j)) (fun j => t'.1 172 (100 + j)) (fun j => t'.1 173 (100 + j)) key) L') (hmem : ∀ i, i ∈ L' ↔ i ∈ bl key ∧ go' i = false) (hnd : L'.Nodup) (hgo : ∀ i, go' i = false → go i = false) (hgk : ∀ i, i < N → go i = false → go' i = true → K i = key) (hr : ∀ c, c = 44 ∨ c = 54 ∨ c = 55 → s'.1 c = s.1 c) (hm : ∀ c, c = 165 ∨ c = 169 ∨ c = 170 → t'.1 c = t.1 c) (hg : ∀ i, i < N → s'.1 60 i = bt (go' i) ∧ t'.1 175 (100 + i) = bt (go' i) ∧ (go' i = true → s'.1 53 i = -1 ∧ t'.1 171 (100 + i) = -2)) (hk : ∀ p, p < N → t.1 164 (100 + p) = 17 → t'.1 164 (100 + p) = 17) : TG s' t' nt N K th (at1 bl key L') go' := by
  obtain ⟨h1, h2, h3, h4, h5, h6, h7⟩ := hG
  refine ⟨fun k hk' => ?_, fun k i hi => ?_, fun i hi hgi => ?_, fun k => ?_, fun i hi => ?_, hg, fun p hp hne => hk p hp (h7 p hp (fun z => ?_))⟩
  · by_cases q : k = key
    · subst q
      rw [at1_s]
      exact hL hk'
    · obtain ⟨a1, a2, a3⟩ := hx k hk' q
      obtain ⟨b1, b2⟩ := h1 k hk'
      rw [at1_n q, a2, a3]
      exact ⟨lkd_cg _ _ b1 (fun a ha => (a1 a ha).1), lkd_cg _ _ b2 (fun a ha => (a1 a ha).2)⟩
  · by_cases q : k = key
    · subst q
      rw [at1_s] at hi
      obtain ⟨a1, a2⟩ := (hmem i).mp hi
      obtain ⟨b1, b2, -⟩ := h2 k i a1
      exact ⟨b1, b2, a2⟩
    · rw [at1_n q] at hi
      obtain ⟨b1, b2, b3⟩ := h2 k i hi
      refine ⟨b1, b2, ?_⟩
      cases hgi : go' i with
      | false => rfl
      | true =>
        have := hgk i b1 b3 hgi
        exact absurd (b2.symm.trans this) q
  · have hm' := h3 i hi (hgo i hgi)
    by_cases q : K i = key
    · rw [q, at1_s]
      rw [q] at hm'
      exact (hmem i).mpr ⟨hm', hgi⟩
    · rw [at1_n q]
      exact hm'
  · by_cases q : k = key
    · rw [q, at1_s]; exact hnd
    · rw [at1_n q]; exact h4 k
  · rw [hr 44 (by omega), hr 54 (by omega), hr 55 (by omega), hm 165 (by omega), hm 169 (by omega), hm 170 (by omega)]
    exact h5 i hi
  · by_cases q : 5 + 2 * p = key
    · rw [q, at1_s] at hne
      cases hL' : L' with
      | nil => exact hne hL'
      | cons x L2 =>
        have := ((hmem x).mp (by rw [hL']; exact List.mem_cons_self)).1
        rw [← q, z] at this
        cases this
    · rw [at1_n q] at hne
      exact hne z
/-- where a line stands in its block -/
theorem TG_at (hG : TG s t nt N K th bl go) (hi : i < N) (hg : go i = false) : ∃ A C, bl (K i) = A ++ i :: C := List.append_of_mem (hG.2.2.1 i hi hg)
theorem TG_ky (hG : TG s t nt N K th bl go) (hi : i < N) : kyV nt N (K i) := by
  obtain ⟨⟨g1, -⟩, ⟨g2, -⟩ | ⟨p, b, p1, p2, p3, -⟩⟩ := hG.2.2.2.2.1 i hi
  · exact Or.inl (by omega)
  · exact Or.inr ⟨by omega, by omega⟩
/-- what stands behind it, on both sides -/
theorem TG_nx (hG : TG s t nt N K th bl go) (hi : i < N) (hL : bl (K i) = A ++ i :: C) : (C = [] ∧ s.1 53 i = -1 ∧ t.1 171 (100 + i) = -2) ∨ ∃ j C', C = j :: C' ∧ s.1 53 i = nI j ∧ t.1 171 (100 + i) = nI j := by
  obtain ⟨a1, a2⟩ := hG.1 (K i) (TG_ky hG hi)
  rw [hL] at a1 a2
  have b1 := lkd_at A _ a1
  have b2 := lkd_at A _ a2
  cases C with
  | nil => exact Or.inl ⟨rfl, b1, b2⟩
  | cons j C => exact Or.inr ⟨j, C, rfl, b1.1, b2.1⟩
/-- what a rewriting of the tree may change -/
abbrev rwX (s s' : qS) : Prop := (∀ c, c ≠ 41 → c ≠ 53 → c ≠ 56 → c ≠ 57 → c ≠ 60 → s'.1 c = s.1 c) ∧ s'.2 = s.2
abbrev rwM (t t' : qS) : Prop := (∀ c, c ≠ 171 → c ≠ 172 → c ≠ 173 → c ≠ 175 → c ≠ 181 → t'.1 c = t.1 c) ∧ (∀ c, c = 171 ∨ c = 172 ∨ c = 173 ∨ c = 175 → ∀ j, j < 100 ∨ 200 ≤ j → t'.1 c j = t.1 c j) ∧ (∀ j, j < 4 ∨ 8 ≤ j → t'.1 181 j = t.1 181 j) ∧ t'.2 = t.2
end SWP

