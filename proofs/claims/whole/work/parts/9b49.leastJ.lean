/-! JUDGING: the least state that shows it, on both sides. -/
section LEJ
variable {en : pN} {d N v u e nt no z p : Nat} {A E T M st : Nat → Nat} {s s' s'' σ τ : qS} {W B R H H' K : Nat → Bool} {fr c1 : Bool} {y2 : Int32}
/-- what lookWays leaves alone -/
abbrev wlF (s s' : qS) : Prop := (∀ c, c ≠ 151 → c < 235 ∨ 246 < c → s'.1 c = s.1 c) ∧ (∀ j, j ≠ 143 → s'.1 151 j = s.1 151 j) ∧ s'.2 = s.2
theorem m_lookWays (hH : mjH A E T M W N nt σ) (hB1 : c1 = true → ∀ v, v < N → B v = decide (v = 0)) (hB2 : c1 = false → ∀ v, v < N → σ.1 234 v = bt (B v)) (hNT : ∀ v, v < N → ∀ t, nt ≤ t → t < 4 → ¬ (M v).testBit t = true) : ∃ (s' : qS) (p : Nat → Bool), qev en (d + 2) 394 [.ref 151, .int (bt c1), .int (bt fr)] σ = some (some (.int (lsV p N 0)), s') ∧ wlF σ s' ∧ ∀ v, v < N → (p v = true ↔ isRJ A E W B N v ∧ goJ A E T W M fr v) := by
  obtain ⟨⟨hN, hAN⟩, hA, hG0⟩ := id hH
  have hEN : ∀ e, e < A N → E e < N := fun e he => (hG0.2.1 e he).2.2.1
  obtain ⟨s1, R1, no1, st1, a1, a2, a3, a4, a5, a6⟩ := m_wyBegin (en := en) (d := d + 1) (y2 := bt fr) hH hB1 hB2 N 0 σ (fun _ => false) 0 (fun _ => 0) (by omega) ⟨fun _ _ _ => rfl, rfl⟩ (fun u hu => absurd hu (by omega)) (fun _ _ => rfl) (fun i hi => absurd hi (by omega)) (RS.none (fun _ _ => rfl)) (fun b hb => absurd hb (by omega))
  obtain ⟨s2, R2, st2, c2, b1, b2, b3, b4, b5⟩ := m_srLoop (en := en) (d := d + 1) (y2 := bt fr) hH N 0 s1 R1 no1 st1 (by omega) a2 a3 a4 a5
  have hR : ∀ v, v < N → (R2 v = true ↔ isRJ A E W B N v) := fun v hv => RS.all hEN hA b4 (fun b h1 h2 h3 => b5 b (a6 b h1 h2 h3)) hv
  obtain ⟨s3, G, Q, d1, d2, d3⟩ := m_layParts (en := en) (d := d) (hH.sr b2)
  have hH3 : mjH A E T M W N nt s3 := ⟨⟨hN, hAN⟩, hA, (hH.sr b2).2.2.fr' d2⟩
  obtain ⟨s4, H4, e1, e2, e3, e4⟩ := m_wyFirst (en := en) (d := d) (fr := fr) hH3 d3 hNT N 0 s3 (fun _ => false) (by omega) ⟨fun _ _ => rfl, rfl⟩ (fun u hu => absurd hu (by omega)) (fun u hu => absurd hu (by omega))
  obtain ⟨s5, H5, f1, f2, f3, f4, f5, f6⟩ := m_wyAll (en := en) (d := d + 1) (g := fun v => W v = false ∧ goJ A E T W M fr v) hN (fun v e hv hw h1 h2 hg => by
    obtain ⟨q, u, u1, u2⟩ := hg
    exact ⟨hw, u, rcW_t (rcW_e rcW_r h1 h2 q) u1, u2⟩) _ s4 H4 (Nat.le_refl _) (hH3.wy e2) e3 (fun u hu h => ⟨((e4 u hu).mp h).1, ((e4 u hu).mp h).1, u, rcW_r, ((e4 u hu).mp h).2⟩)
  have hH5 : ∀ v, v < N → (H5 v = true ↔ W v = false ∧ goJ A E T W M fr v) := fun v hv => by
    constructor
    · exact fun h => (f4 v hv h).2
    · rintro ⟨hw, u, u1, u2⟩
      apply Classical.byContradiction
      intro hn
      have := u1 (fun x => x < N ∧ W x = false ∧ ¬ H5 x = true) ⟨hv, hw, hn⟩ (fun x e ⟨x1, x2, x3⟩ h1 h2 h3 => ⟨hEN e (Nat.lt_of_lt_of_le h2 (hA (x + 1) N x1 (Nat.le_refl _))), h3, fun h => x3 (f6 x x1 x2 e h1 h2 h)⟩)
      exact this.2.2 (f5 u ((e4 u this.1).mpr ⟨this.2.1, u2⟩))
  have s5r : ∀ c, c ≠ 236 → s5.1 c = s3.1 c := fun c hc => (f2.1 c hc).trans (e2.1 c hc)
  have h5 : ∀ u, u < N → s5.1 235 u = bt (R2 u) := fun u hu => by rw [s5r 235 (by decide), d2.1 235 (by decide) (by decide)]; exact b3 u hu
  have h101 : s5.1 151 101 = nI N := by rw [s5r 151 (by decide)]; exact hH3.2.2.2.2.1.1
  have last := m_wyLeast (en := en) (d := d + 1) (s := s5) (R := R2) (H := H5) hN h101 h5 f3 N 0 (by omega)
  refine ⟨s5, fun u => R2 u && H5 u, le_X12_lookWays en _ _ _ _ _ ?_, ⟨fun c h1 h2 => ?_, fun j hj => ?_, ?_⟩, fun v hv => ?_⟩
  · refine a1 _ (b1 _ ?_)
    rw [d1, bV_some]
    exact e1 _ (f1 _ last)
  · rw [s5r c (by omega), d2.1 c h1 (by omega), b2.1 c (by omega) (by omega)]
  · rw [s5r 151 (by decide), d2.2.1 j hj, b2.1 151 (by decide) (by decide)]
  · rw [f2.2, e2.2, d2.2.2, b2.2]
  · show (R2 v && H5 v) = true ↔ _
    rw [Bool.and_eq_true, hR v hv, hH5 v hv]
    exact ⟨fun h => ⟨h.1, h.2.2⟩, fun h => ⟨h.1, h.1.1, h.2⟩⟩
/-- the class's search for the least -/
theorem x_leastJ {mk wt : Int32} {p : Nat → Bool} (hN : N ≤ 20000) (h1 : s.1 83 3 = nI N) (h : ∀ v, v < N → ((s.1 104 v &&& mk) = wt ↔ p v = true)) : ∀ (m v : Nat), v + m = N → L_X2_least_2 en d mk wt (nI v) s = some (some (.int (lsV p m v)), s) := by
  intro m
  induction m with
  | zero =>
    intro v hv
    refine le_X2_least_2 en _ _ _ _ _ _ ?_
    rw [h1, if_pos (by rw [n_LE (by omega) (by omega)]; omega)]
    rfl
  | succ m ih =>
    intro v hv
    refine le_X2_least_2 en _ _ _ _ _ _ ?_
    have e : lsV p (m + 1) v = if p v = true then nI v else lsV p m (v + 1) := rfl
    rw [h1, if_neg (by rw [n_LE (by omega) (by omega)]; omega), gd_in (by omega) (by decide), n_cl (by omega), show nI v + (1 : Int32) = nI (v + 1) from n_ar, e]
    by_cases q : p v = true
    · rw [if_neg (not_not_intro ((h v (by omega)).mpr q)), if_pos q]
    · rw [if_pos (fun z => q ((h v (by omega)).mp z)), if_neg q]
      exact ih (v + 1) (by omega)
/-- the model's search for the least by the fact alone -/
theorem m_leastJ {c : Bool} (hN : N ≤ 20000) (h1 : s.1 151 101 = nI N) (h : ∀ v, v < N → s.1 233 v = bt (W v)) : ∀ (m v : Nat), v + m = N → L_X12_leastWith_2 en d (bt c) (nI v) s = some (some (.int (lsV (fun u => W u == c) m v)), s) := by
  intro m
  induction m with
  | zero =>
    intro v hv
    refine le_X12_leastWith_2 en _ _ _ _ _ ?_
    rw [h1, if_pos (by rw [n_LE (by omega) (by omega)]; omega)]
    rfl
  | succ m ih =>
    intro v hv
    refine le_X12_leastWith_2 en _ _ _ _ _ ?_
    have e : lsV (fun u => W u == c) (m + 1) v = if (W v == c) = true then nI v else lsV (fun u => W u == c) m (v + 1) := rfl
    rw [h1, if_neg (by rw [n_LE (by omega) (by omega)]; omega), gd_in (by omega) (by decide), n_cl (by omega), h v (by omega), show nI v + (1 : Int32) = nI (v + 1) from n_ar, e]
    by_cases q : W v = c
    · rw [if_neg (by rw [q]; exact not_not_intro rfl), if_pos (by rw [q]; exact beq_self_eq_true c)]
    · rw [if_pos (fun z => q (by cases hw : W v <;> cases hc : c <;> rw [hw, hc] at z <;> first | rfl | exact absurd z (by decide))), if_neg (fun z => q (eq_of_beq z))]
      exact ih (v + 1) (by omega)
/-- always, never, may: the class -/
theorem x_least1 {c : Bool} (hN : N ≤ 20000) (h1 : s.1 83 3 = nI N) (h : ∀ v, v < N → s.1 104 v = fgV (W v) (B v) (R v) (K v)) : qev en (d + 1) 22 [.ref 103, .int (1 : Int32), .int (bt c)] s = some (some (.int (lsV (fun u => W u == c) N 0)), s) :=
  le_X2_least en _ _ _ _ _ (x_leastJ hN h1 (fun v hv => by
    rw [h v hv, fg_1]
    cases W v <;> cases c <;> decide) N 0 (by omega))
/-- must, leads: the class -/
theorem x_least12 (hN : N ≤ 20000) (h1 : s.1 83 3 = nI N) (h : ∀ v, v < N → s.1 104 v = fgV (W v) (B v) (R v) (K v)) : qev en (d + 1) 22 [.ref 103, .int (12 : Int32), .int (12 : Int32)] s = some (some (.int (lsV (fun u => R u && K u) N 0)), s) :=
  le_X2_least en _ _ _ _ _ (x_leastJ hN h1 (fun v hv => by
    rw [h v hv, fg_12]
    cases R v <;> cases K v <;> decide) N 0 (by omega))
/-- the class's whole search -/
theorem x_lookWays (hH : cjH A E T M N τ) (h11 : τ.1 103 11 = 0) (hf : ∀ v, v < N → τ.1 104 v = fgV (W v) (B v) false false) : ∃ (s2 s3 s4 : qS) (p : Nat → Bool), qev en (d + 4) 26 [.ref 103, .int (bt fr)] τ = some (none, s2) ∧ qev en (d + 4) 24 [.ref 103] s2 = some (none, s3) ∧ qev en (d + 4) 22 [.ref 103, .int (12 : Int32), .int (12 : Int32)] s3 = some (some (.int (lsV p N 0)), s3) ∧ s4 = s3 ∧ cjF τ s3 ∧ s3.1 103 11 = 0 ∧ ∀ v, v < N → (p v = true ↔ isRJ A E W B N v ∧ goJ A E T W M fr v) := by
  obtain ⟨s2, K, a1, a2, a3, a4, a5⟩ := x_findLacking (en := en) (d := d) (fr := fr) hH h11 hf
  obtain ⟨s3, R', b1, b2, b3, b4, b5⟩ := x_findReached (en := en) (d := d + 2) (hH.fr' a2) a4
  have hG := hH.2.2.1.fr (a2.tr' b2)
  refine ⟨s2, s3, s3, fun u => R' u && K u, a1, b1, x_least12 (hH.1.1) hG.2.2 b4, rfl, a2.tr' b2, b3.trans a3, fun v hv => ?_⟩
  show (R' v && K v) = true ↔ _
  rw [Bool.and_eq_true, b5 v hv, a5 v hv]
  exact ⟨fun h => ⟨h.1, h.2.2⟩, fun h => ⟨h.1, h.1.1, h.2⟩⟩
theorem lsV_iff {p q : Nat → Bool} {a : Nat → Prop} (hp : ∀ v, v < N → (p v = true ↔ a v)) (hq : ∀ v, v < N → (q v = true ↔ a v)) : lsV p N 0 = lsV q N 0 := lsV_eq N 0 (by omega) (fun v hv => Bool.eq_iff_iff.mpr ((hp v hv).trans (hq v hv).symm))
end LEJ
