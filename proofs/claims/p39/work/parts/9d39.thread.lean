/-! THE READER, the class's own: one thread. -/
/-- what is read between declarations -/
abbrev RB0 (s : qS) (K : List (Nat × Nat)) (th c M L nt : Nat) (NW : Nat → Nat) (C V : fI) (bl : Nat → List Nat) (Km tm : Nat → Nat) : Prop :=
  RSs s th c M L NW C V ∧ LKs s K ∧ TRs s nt L bl Km tm ∧ ∀ i, i < L → ∃ k, LNs s (tm i) (clp (s.1 14 (tm i))) M i k
section THR
variable {en : pN} {d th c M L k v i j nt nc nl u q z v2 v3 w5 m1 m2 : Nat} {NW : Nat → Nat} {C V CL H : fI} {LD : Nat → Int64} {A : Nat → fI} {O Q : fI} {s s' s1 : qS} {K : List (Nat × Nat)} {b e : Nat × Nat} {x y : Int32} {bl : Nat → List Nat} {Km tm ll : Nat → Nat} {lw : List Nat}
theorem RB.rb0 (h : RB s K th c M L nt NW C V lw bl Km tm) : RB0 s K th c M L nt NW C V bl Km tm := ⟨h.1, h.2.1, h.2.2.2.1, h.2.2.2.2⟩
/-- a thread more, without lines -/
theorem TRs_th (h : TRs s nt L bl Km tm) (hnt : nt < 4) (hh : ∀ u, u < nt → s'.1 16 u = s.1 16 u) (hn : s'.1 16 nt = -1) (h2 : ∀ a, 18 ≤ a → a < 36 → ∀ i, i < L → s'.1 a i = s.1 a i) : TRs s' (nt + 1) L bl Km tm := by
  have hb : bl nt = [] := by
    rcases hl : bl nt with _ | ⟨a, T⟩
    · rfl
    · exfalso
      obtain ⟨a1, a2⟩ := h.2.1 nt a (by rw [hl]; exact List.mem_cons_self)
      obtain ⟨⟨t1, -⟩, h5, -⟩ := h.2.2.2.2.1 a a1
      rcases h5 with ⟨h5, -⟩ | ⟨p, b, p1, b1, h5, -⟩ <;> omega
  refine ⟨fun k hk => ?_, h.2.1, h.2.2.1, h.2.2.2.1, fun i hi => ?_, fun p hp hne => ?_⟩
  · by_cases q : k = nt
    · rw [q, hb]
      unfold hdK
      rw [if_pos hnt]; exact hn
    · have hk' : kyV nt L k := by
        unfold kyV at hk ⊢; omega
      rw [hdK_cg (f := s.1 16) (g := s.1 31) (h2 := s.1 32) hh (fun i hi => h2 31 (by decide) (by decide) i hi) (fun i hi => h2 32 (by decide) (by decide) i hi) hk' (by omega)]
      exact lkd_cg _ _ (h.1 k hk') (fun a ha => h2 28 (by decide) (by decide) a (h.2.1 k a ha).1)
  · rw [h2 19 (by decide) (by decide) i hi, h2 29 (by decide) (by decide) i hi, h2 30 (by decide) (by decide) i hi, h2 35 (by decide) (by decide) i hi]
    obtain ⟨⟨t1, t2⟩, h5, h6⟩ := h.2.2.2.2.1 i hi
    exact ⟨⟨by omega, t2⟩, h5, h6⟩
  · rw [h2 18 (by decide) (by decide) p hp]; exact h.2.2.2.2.2 p hp hne
/-- one thread of two statements -/
theorem th_rd (h1 : m1 < 16) (h2 : m2 < 16) (h : RB0 s ((2, v) :: (123, z) :: (FT m1 ++ (FT m2 ++ (125, q) :: e :: K))) th c M L nt NW C V bl Km tm) (hF : FLs L bl Km ll) (hb : ∀ j, j < 16 → NW j < 2 ^ 40 ∧ NW j ≠ v) (hv : v < 2 ^ 40) (h11 : C 11 = nI nt) (hnt : nt < 4) (hlc : noLc (s.1 14) (s.2.1 13) nt v) (hl : s.1 14 nt = 0) (hll : ll nt = 0) (hc : c ≤ 100) (hM : M ≤ 100) (hL : L ≤ 20) (hn : NWc (at1 NW (12 + nt) v)) :
    ∃ (s' : qS) (c' M' L' : Nat) (lw' : List Nat) (bl' : Nat → List Nat) (Km' tm' : Nat → Nat), QV en 120 121 [.ref 65] s (none, s') ∧ RB s' (e :: K) nt c' M' L' (nt + 1) (at1 NW (12 + nt) v) (upd C 11 (nI (nt + 1))) V lw' bl' Km' tm' ∧ FLs L' bl' Km' (at1 ll nt 8) ∧ (∀ t, t < 4 → tcS s' L' t ≤ tcS s L t + if t = nt then 2 else 0) ∧ c' ≤ c + 48 ∧ M' ≤ M + 48 ∧ (L' ≤ L + 8 ∧ L < L') ∧ ∀ u, u < 4 → u ≠ nt → s'.1 14 u = s.1 14 u := by
  obtain ⟨hR, hK, hT, hN⟩ := h
  have hRs : RSb s th c M L NW C V (s.1 14) (s.1 16) (s.2.1 13) (fun f => s.1 (18 + f)) (s.1 8) (s.1 9) := hR
  obtain ⟨s1, e1, g1, r1⟩ := x_rdT (en := en) (nt := nt) hRs hK hb hv h11 hnt hlc
  have rows : ∀ a, 18 ≤ a → a < 36 → ∀ i, i < L → s1.1 a i = s.1 a i := fun a ha hb i hi => by
    have e : s1.1 (18 + (a - 18)) i = s.1 (18 + (a - 18)) i := r1.2.2.2.2.2.2.2.2.2.2.1 (a - 18) (by omega) i hi
    rw [show 18 + (a - 18) = a by omega] at e
    exact e
  have r14 : ∀ u, u < 4 → s1.1 14 u = s.1 14 u := fun u hu => (r1.2.2.2.2.2.2.2.2.1 u hu).1
  have r16 : ∀ u, u < 4 → s1.1 16 u = upd (s.1 16) nt (-1) u := fun u hu => (r1.2.2.2.2.2.2.2.2.1 u hu).2
  have rt : TRs s1 (nt + 1) L bl Km tm := TRs_th hT hnt (fun u hu => (r16 u (by omega)).trans (if_neg (by omega))) ((r16 nt hnt).trans (if_pos rfl)) rows
  have rb : RB s1 ((123, z) :: (FT m1 ++ (FT m2 ++ (125, q) :: e :: K))) nt c M L (nt + 1) (at1 NW (12 + nt) v) (upd C 11 (nI (nt + 1))) V [] bl Km tm := by
    refine ⟨r1.can, g1, ⟨(r14 nt hnt).trans hl, by decide, fun j hj => absurd hj (by exact Nat.not_lt_zero j)⟩, rt, fun i hi => ?_⟩
    obtain ⟨k, hk⟩ := hN i hi
    refine ⟨k, LNg_cg hk (fun f hf => rows (18 + f) (by omega) (by omega) i hi) (fun j hj => r1.2.2.2.2.2.2.2.2.2.2.2 j hj) (Nat.le_refl _) ?_⟩
    rw [r14 (tm i) (by have := (hT.2.2.2.2.1 i hi).1.1; omega)]
    exact Nat.le_refl _
  have hbn : bl nt = [] := by
    have := hF.2.2 nt hnt
    rw [hll] at this
    exact List.length_eq_zero_iff.mp (by omega)
  have hne : FT m1 ≠ [] := by
    have : ∀ m, m < 16 → FT m ≠ [] := by decide
    exact this m1 h1
  obtain ⟨e0, T0, hT0⟩ := List.exists_cons_of_ne_nil hne
  rw [hT0, List.cons_append] at rb
  obtain ⟨s2, b1, b2, b3⟩ := rb_beg (en := en) (v1 := 1) (pa := -1) (pt := 0) rb (by decide)
  rw [show e0 :: (T0 ++ (FT m2 ++ (125, q) :: e :: K)) = FT m1 ++ (FT m2 ++ (125, q) :: e :: K) from by rw [hT0, List.cons_append]] at b2
  have hne2 : FT m2 ≠ [] := by
    have : ∀ m, m < 16 → FT m ≠ [] := by decide
    exact this m2 h2
  obtain ⟨e9, T9, hT9⟩ := List.exists_cons_of_ne_nil hne2
  have st := STr_tr (n := 4) (w := 1) (n' := 4) (w' := 1) (K := FT m2 ++ (125, q) :: e :: K) (K' := (125, q) :: e :: K) (v5 := 0) (ll := ll) (bl := bl) (en := en) (s := s2) (c := c) (M := M) (L := L) (th := nt) (nt := nt + 1) (by
      rw [hT9] at b2 ⊢
      exact st_FT h1 b2 hF hn (Nat.lt_succ_self _) hnt (by omega) (by omega) (by omega) (by decide)) (fun s' c' M' L' lw' bl' Km' tm' ll' w5 hb hf h1 h3 h4 h5 => st_FT h2 hb hf hn (Nat.lt_succ_self _) hnt (by omega) (by omega) (by omega) (by omega))
  obtain ⟨s3, c', M', L', lw', bl', Km', tm', w5, a1, a2, a3, a4, a5, a6, a7, a8, a9⟩ := st
  obtain ⟨s4, d1, d2, d3⟩ := lp_end (en := en) (v1 := 1) (pa := -1) (pt := 0) (la := lstX (bl' nt) (-1)) (v5 := w5) a2 (by omega)
  have t3 : ∀ t, tcS s4 L' t = tcS s3 L' t := fun t => smN_cg (fun i hi => by rw [(d3.1 i hi).1, (d3.1 i hi).2])
  have t1 : ∀ t, tcS s2 L t = tcS s L t := fun t => smN_cg (fun i hi => by rw [(b3.1 i hi).1, (b3.1 i hi).2, rows 18 (by decide) (by decide) i hi, rows 19 (by decide) (by decide) i hi])
  refine ⟨s4, c', M', L', lw', bl', Km', tm', fun D hD => ?_, d2, ?_, fun t ht => ?_, by omega, by omega, by omega, fun u hu hne => ?_⟩
  · obtain ⟨D, rfl⟩ : ∃ z, D = z + 1 + 1 := ⟨D - 2, by omega⟩
    refine e1 (D + 1) s4 (by omega) (b1 D _ (by omega) ?_)
    have := a1 D (by omega) _ (d1 D (by omega))
    rw [hbn] at this
    exact this
  · refine ⟨a3.1, a3.2.1, fun u hu => ?_⟩
    have := a3.2.2 u hu
    by_cases q : u = nt
    · rw [q, at1_s, hll] at this
      rw [q, at1_s]; exact this
    · rw [at1_n q] at this
      rw [at1_n q]; exact this
  · rw [t3, ← t1]; exact a4 t ht
  · rw [d3.2 u hu hne, a9 u hu hne, b3.2 u hu hne, r14 u hu]
end THR
