/-! THE READER, the class's own: the law's programs are read, and good. -/
section PGR
variable {en : pN} {th c M L N n a1 a2 a3 a4 : Nat} {NW : Nat → Nat} {C V : fI} {s s' τ : qS} {K : List (Nat × Nat)} {b e : Nat × Nat} {bl : Nat → List Nat} {Km tm : Nat → Nat} {lw : List Nat} {B : Nat → Nat}
theorem CTp_of (h : TRs s 2 N bl Km tm) : CTp (rdP s 11) 2 N bl Km tm (fun _ => false) := by
  refine ⟨h.1, fun k i hi => ⟨(h.2.1 k i hi).1, (h.2.1 k i hi).2, rfl⟩, fun i hi _ => h.2.2.1 i hi, h.2.2.2.1, fun i hi => ?_, fun i hi hg => Bool.noConfusion hg⟩
  obtain ⟨t, h5, h6⟩ := h.2.2.2.2.1 i hi
  refine ⟨t, ?_⟩
  rcases h5 with h5 | ⟨p, b, p1, b1, q1, q2, q3, q4⟩
  · exact Or.inl h5
  · exact Or.inr ⟨p, b, p1, b1, q1, q2, q3⟩
theorem lwC_of (h : TRs s 2 N bl Km tm) (hN : N ≤ 100) (hk : ∀ i, i < N → ∃ k, k < 19 ∧ s.1 18 i = nI k) : lwC 11 N s := by
  have hC := CTp_of h
  intro i hi
  refine ⟨hk i hi, ?_, ?_, ?_, ?_⟩
  · rcases ix_next hC (by decide) hN hi rfl with h' | ⟨j, j1, j2, -⟩
    · exact Or.inl h'
    · exact Or.inr ⟨j, j1, j2⟩
  · rcases (hC.2.2.2.2.1 i hi).2 with ⟨-, h'⟩ | ⟨p, b, p1, b1, -, h', -⟩
    · exact Or.inl h'
    · exact Or.inr ⟨p, p1, h'⟩
  · rcases ix_head hC (k := 4 + 2 * i) (by unfold kyV; right; omega) hdK_c with h' | ⟨j, j1, j2, -⟩
    · exact Or.inl h'
    · exact Or.inr ⟨j, j1, j2⟩
  · rcases ix_head hC (k := 5 + 2 * i) (by unfold kyV; right; omega) hdK_o with h' | ⟨j, j1, j2, -⟩
    · exact Or.inl h'
    · exact Or.inr ⟨j, j1, j2⟩
/-- behind the last declaration -/
theorem pg_end (h : RB s K th c M N 2 NW C V lw bl Km tm) (hF : FLs N bl Km (fun _ => 8)) (h9 : C 9 = nI 3) (h10 : C 10 = nI 2) (h11 : C 11 = nI 2) (h8 : C 8 = 0) (hV : ∀ c, c < 8 → V c = 0) (hl : ∀ t, t < 2 → ∃ q, q ≤ 2 ∧ s.1 14 t = nI q) (ht : ∀ t, t < 2 → tcS s N t ≤ 2) :
    ∃ (τ : qS) (lc : Nat → Nat), (∀ D, 5 ≤ D → L_X6_readProgram_100 en D s = some (none, τ)) ∧ τ.1 65 11 = 0 ∧ PRG (rdP τ 11) 3 2 N lc bl Km tm (fun _ => false) ∧ TRs τ 2 N bl Km tm := by
  obtain ⟨hR, hK, hW, hT, hN⟩ := h
  have hRb : RSb s th c M N NW C V (s.1 14) (s.1 16) (s.2.1 13) (fun f => s.1 (18 + f)) (s.1 8) (s.1 9) := hR
  have n12 : s.1 11 12 = nI N ∧ N ≤ 100 := hRb.2.2.2.1
  have M4 : M ≤ 400 := hRb.2.2.1.2
  have cc : ∀ j, 7 ≤ j → j ≤ 11 → s.1 11 j = C j := hRb.2.2.2.2.2.2.1
  have vv : ∀ j, j < 8 → s.1 15 j = V j := hRb.2.2.2.2.2.2.2.1
  have kds : ∀ i, i < N → ∃ k, (k < 19 ∧ okK k) ∧ s.1 18 i = nI k := fun i hi => by
    obtain ⟨k, k1, k2, -⟩ := hN i hi
    exact ⟨k, k2, k1⟩
  let s5 : qS := uI s 11 13 (s.1 65 13)
  have o : ∀ a, a ≠ 11 → s5.1 a = s.1 a := fun a ha => uI_ne ha
  have e65 : s5.1 65 11 = 0 := by rw [o 65 (by decide)]; exact hRb.1.1
  have e12 : s5.1 11 12 = nI N := by
    show (uI s 11 13 (s.1 65 13)).1 11 12 = _
    rw [g_I, if_neg (by decide)]; exact n12.1
  have T5 : TRs s5 2 N bl Km tm := TRs_cg hT (by decide) (fun u _ => by rw [o 16 (by decide)]) (fun a ha i _ => by rw [o a (by omega)]) (fun p _ _ => by rw [o 18 (by decide)])
  have ai := x_aimN (en := en) (d := 0) n12.2 e12 e65 (fun i hi => by
    obtain ⟨k, k1, k2⟩ := kds i hi
    refine ⟨k, k1.1, by rw [o 18 (by decide)]; exact k2, ?_, ?_⟩
    · have := k1.2; unfold okK at this; omega
    · have := k1.2; unfold okK at this; omega)
  obtain ⟨τ, w1, w2, w3, w4⟩ := x_layWaysC (en := en) (d := 0) (r := 11) (Or.inl rfl) n12.2 (lwC_of T5 n12.2 (fun i hi => by
    obtain ⟨k, k1, k2⟩ := kds i hi
    exact ⟨k, k1.1, by rw [o 18 (by decide)]; exact k2⟩)) e12
  have r2 : ∀ a, a ≠ 33 → a ≠ 34 → τ.1 a = s5.1 a := w2
  have r1 : ∀ a, a ≠ 11 → a ≠ 33 → a ≠ 34 → τ.1 a = s.1 a := fun a h1 h2 h3 => (r2 a h2 h3).trans (o a h1)
  have Tτ : TRs τ 2 N bl Km tm := TRs_cg T5 (by decide) (fun u _ => by rw [r2 16 (by decide) (by decide)]) (fun a ha i _ => by rw [r2 a (by omega) (by omega)]) (fun p _ _ => by rw [r2 18 (by decide) (by decide)])
  have c11 : ∀ j, 7 ≤ j → j ≤ 12 → τ.1 11 j = s.1 11 j := fun j h1 h2 => by
    rw [r2 11 (by decide) (by decide)]
    show (uI s 11 13 (s.1 65 13)).1 11 j = _
    rw [g_I, if_neg (by omega)]
  refine ⟨τ, fun t => clp (s.1 14 t), fun D hD => ?_, by rw [r2 65 (by decide) (by decide)]; exact e65, ⟨⟨⟨?_, by decide⟩, ⟨?_, by decide⟩, ⟨?_, ?_⟩, ?_, n12.2⟩, CTp_of Tτ, ⟨hF.1, hF.2.1, hF.2.2⟩, fun i hi => ?_, fun i hi => ?_, fun t ht => ?_, fun c hc => ?_, fun t ht' => ?_⟩, Tτ⟩
  · refine le_X6_readProgram_100 en _ _ _ ?_
    rw [nm_eq, show qev en D 132 [.ref 65] (uI s 11 13 (s.1 65 13)) = _ from qev_up (D := D) (D - 1) 1 (by omega) ai, bV_some, e65, if_neg (show ¬ ¬ (0 : Int32) = 0 from not_not_intro rfl), show qev en D 101 [.ref 11] s5 = _ from qev_up (D := D) (D - 2) 2 (by omega) w1, bV_some]
  · show τ.1 11 9 = nI 3
    rw [c11 9 (by decide) (by decide), cc 9 (by decide) (by decide)]; exact h9
  · show τ.1 11 10 = nI 2
    rw [c11 10 (by decide) (by decide), cc 10 (by decide) (by decide)]; exact h10
  · show τ.1 11 11 = nI 2
    rw [c11 11 (by decide) (by decide), cc 11 (by decide) (by decide)]; exact h11
  · show τ.1 11 8 = 0
    rw [c11 8 (by decide) (by decide), cc 8 (by decide) (by decide)]; exact h8
  · show τ.1 11 12 = nI N
    rw [c11 12 (by decide) (by decide)]; exact n12.1
  · obtain ⟨k, k1, k2, k3, k4, k5, ⟨a, e, x1, x2, x3, x4⟩, ⟨a', e', y1, y2, y3, y4⟩⟩ := hN i hi
    have lm : lmN (rdP τ 11) = 400 := lm_rd
    have p25 : rdP τ 11 25 = s.1 8 := r1 8 (by decide) (by decide) (by decide)
    have p26 : rdP τ 11 26 = s.1 9 := r1 9 (by decide) (by decide) (by decide)
    have pr : ∀ f, f < 18 → f ≠ 15 → f ≠ 16 → τ.1 (18 + f) i = s.1 (18 + f) i := fun f h1 h2 h3 => by rw [r1 (18 + f) (by omega) (by omega) (by omega)]
    refine ⟨⟨k, (pr 0 (by decide) (by decide) (by decide)).trans k1, k2, fun h1 h2 => ?_, fun h1 h2 => ?_⟩, ?_, ⟨a, e, (pr 5 (by decide) (by decide) (by decide)).trans x1, (pr 6 (by decide) (by decide) (by decide)).trans x2, by omega, by rw [p25, p26]; exact x4⟩, ⟨a', e', (pr 7 (by decide) (by decide) (by decide)).trans y1, (pr 8 (by decide) (by decide) (by decide)).trans y2, by omega, by rw [p25, p26]; exact y4⟩⟩
    · obtain ⟨q, q1, q2⟩ := k3 h1 h2
      exact ⟨q, q1, (pr 2 (by decide) (by decide) (by decide)).trans q2⟩
    · obtain ⟨q, q1, q2⟩ := k4 h1 h2
      exact ⟨q, q1, (pr 2 (by decide) (by decide) (by decide)).trans q2⟩
    · rcases k5 with k5 | ⟨q, q1, q2⟩
      · refine Or.inl ⟨(pr 3 (by decide) (by decide) (by decide)).trans k5.1, fun z => k5.2 ?_⟩
        have e0 : rdP τ 11 7 i = nI k := (pr 0 (by decide) (by decide) (by decide)).trans k1
        exact (nI_eq (by omega) (by decide)).mp (e0.symm.trans z)
      · exact Or.inr ⟨q, q1, (pr 3 (by decide) (by decide) (by decide)).trans q2⟩
  · obtain ⟨v1, v2⟩ := w4 i hi
    have e17 : rdP τ 11 17 = s5.1 28 := r2 28 (by decide) (by decide)
    have e18 : rdP τ 11 18 = s5.1 29 := r2 29 (by decide) (by decide)
    have e7 : rdP τ 11 7 = s5.1 18 := r2 18 (by decide) (by decide)
    have e20 : rdP τ 11 20 = s5.1 31 := r2 31 (by decide) (by decide)
    have e21 : rdP τ 11 21 = s5.1 32 := r2 32 (by decide) (by decide)
    unfold itP elP bhP
    rw [e17, e18, e7, e20, e21]
    exact ⟨v1, v2⟩
  · obtain ⟨q, q1, q2⟩ := hl t ht
    have e3 : rdP τ 11 3 t = s.1 14 t := by
      show τ.1 14 t = _
      rw [r1 14 (by decide) (by decide) (by decide)]
    refine ⟨?_, ?_⟩
    · rw [e3]
      show s.1 14 t = nI (clp (s.1 14 t))
      rw [q2, n_clp (by omega)]
    · show clp (s.1 14 t) ≤ 2
      rw [q2, n_clp (by omega)]; exact q1
  · have e4 : rdP τ 11 4 c = s.1 15 c := by
      show τ.1 15 c = _
      rw [r1 15 (by decide) (by decide) (by decide)]
    rw [e4, vv c (by omega), hV c (by omega)]
    exact ⟨by decide, by decide⟩
  · have e8 : rdP τ 11 8 = s.1 19 := r1 19 (by decide) (by decide) (by decide)
    have e7 : rdP τ 11 7 = s.1 18 := r1 18 (by decide) (by decide) (by decide)
    have : tcP (rdP τ 11) N t = tcS s N t := smN_cg (fun i _ => by
      show (if rdP τ 11 8 i = nI t ∧ (1 ≤ clp (rdP τ 11 7 i) ∧ clp (rdP τ 11 7 i) ≤ 4) then 1 else 0) = _
      rw [e8, e7])
    rw [this]; exact ht t ht'
end PGR
