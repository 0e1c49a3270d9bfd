/-! JUDGING: a group is closed. -/
section TJT
variable {A E : Nat → Nat} {W : Nat → Bool} {N C no m nn Q v k0 : Nat} {I L G G' X op tr : Nat → Nat}
/-- a state left -/
theorem TJ.pop (h : TJ A E W N C I L G X no op (m + 1) tr Q) (hv : tr m = v) (hx : X v = A (v + 1)) (hl : L v ≠ I v) :
    1 ≤ m ∧ TJ A E W N C I (at1 L (tr (m - 1)) (min (L (tr (m - 1))) (L v))) G X no op m tr Q := by
  obtain ⟨⟨a1, a2, a3, a4, a5⟩, ⟨b1, b2, b3⟩, ⟨c1, c2⟩, ⟨d1, d2⟩, f1, ⟨g1, g2⟩, k1, m1⟩ := h
  obtain ⟨v1, v2, v3⟩ := c1 m (by omega)
  rw [hv] at v1 v2 v3
  obtain ⟨y0, x, x1, x2, x3, x4, x5⟩ := f1 v v1 v2 v3
  obtain ⟨j, j1, j2, j3⟩ := d2 x x1 x2 x3
  have hj : j ≠ m := fun q => by rw [q, hv] at j2; omega
  have hm : 1 ≤ m := by omega
  obtain ⟨p1, p2, p3⟩ := c1 (m - 1) (by omega)
  have hpv : I (tr (m - 1)) < I v := by
    have := c2 (m - 1) m (by omega) (by omega)
    rw [hv] at this; exact this
  have hrp : rcW A E W (tr (m - 1)) v := d1 (m - 1) v (by omega) v1 v2 v3 (by omega)
  generalize hp : tr (m - 1) = p at *
  have lL : ∀ u, at1 L p (min (L p) (L v)) u ≤ L u := fun u => by
    by_cases q : u = p
    · rw [q, at1_s]; omega
    · rw [at1_n q]; exact Nat.le_refl _
  refine ⟨hm, ⟨a1, a2, a3, a4, a5⟩, ⟨b1, b2, b3⟩, ⟨fun i hi => c1 i (by omega), fun i j hij hj => c2 i j hij (by omega)⟩, ⟨fun i u hi => d1 i u (by omega), fun u hu hn hg => ?_⟩, fun u hu hn hg => ?_, ⟨g1, fun u hu hn ht => ?_⟩, fun u e hu hn h1 h2 hw => ?_, m1⟩
  · obtain ⟨i, i1, i2, i3⟩ := d2 u hu hn hg
    by_cases q : i = m
    · rw [q, hv] at i2 i3
      exact ⟨j, by omega, by omega, rcW_t i3 (rcW_t x5 j3)⟩
    · exact ⟨i, by omega, i2, i3⟩
  · obtain ⟨z1, z2⟩ := f1 u hu hn hg
    refine ⟨Nat.le_trans (lL u) z1, ?_⟩
    by_cases q : u = p
    · rw [q, at1_s]
      rw [q] at z2
      by_cases q' : L p ≤ L v
      · rw [Nat.min_eq_left q']; exact z2
      · rw [Nat.min_eq_right (by omega)]
        exact ⟨x, x1, x2, x3, x4, rcW_t hrp x5⟩
    · rw [at1_n q]; exact z2
  · by_cases q : u = v
    · rw [q]; exact hx
    · refine g2 u hu hn (fun i hi => ?_)
      by_cases q' : i = m
      · rw [q', hv]; exact fun z => q z.symm
      · exact ht i (by omega)
  · obtain ⟨z1, z2⟩ := k1 u e hu hn h1 h2 hw
    refine ⟨z1, fun y1 y2 => ?_⟩
    obtain ⟨i, hi, i1, i2, i3⟩ := z2 y1 y2
    by_cases q : i = m
    · rw [q, hv] at i1 i2
      refine ⟨m - 1, by omega, by rw [hp]; omega, ?_, fun z => absurd z (by omega)⟩
      rw [hp, at1_s]; omega
    · exact ⟨i, by omega, i1, Nat.le_trans (lL _) i2, fun z => i3 (by omega)⟩
/-- the low number of the one before stays where a group closes -/
theorem TJ.keep (h : TJ A E W N C I L G X no op (m + 1) tr Q) (hv : tr m = v) (hl : L v = I v) (hm : 1 ≤ m) : min (L (tr (m - 1))) (L v) = L (tr (m - 1)) ∧ tr (m - 1) ≠ v := by
  obtain ⟨⟨a1, a2, a3, a4, a5⟩, ⟨b1, b2, b3⟩, ⟨c1, c2⟩, ⟨d1, d2⟩, f1, ⟨g1, g2⟩, k1, m1⟩ := h
  have := c2 (m - 1) m (by omega) (by omega)
  rw [hv] at this
  obtain ⟨p1, p2, p3⟩ := c1 (m - 1) (by omega)
  have h2 := (f1 _ p1 p2 p3).1
  exact ⟨by omega, fun q => by rw [q] at this; omega⟩
/-- a group closed -/
theorem TJ.close (h : TJ A E W N C I L G X no op (m + 1) tr Q) (hv : tr m = v) (hx : X v = A (v + 1)) (hl : L v = I v) (hEN : ∀ e, e < A N → E e < N) (hA : ∀ i j, i ≤ j → j ≤ N → A i ≤ A j) (hk : k0 < no) (hkv : op k0 = v) (hG : ∀ i, k0 ≤ i → i < no → G' (op i) = Q + 1) (hG' : ∀ u, (∀ i, k0 ≤ i → i < no → op i ≠ u) → G' u = G u) :
    TJ A E W N C I L G' X k0 op m tr (Q + 1) := by
  obtain ⟨⟨a1, a2, a3, a4, a5⟩, ⟨b1, b2, b3⟩, ⟨c1, c2⟩, ⟨d1, d2⟩, f1, ⟨g1, g2⟩, k1, m1⟩ := h
  obtain ⟨v1, v2, v3⟩ := c1 m (by omega)
  rw [hv] at v1 v2 v3
  -- what is in the group
  have gIn : ∀ u, u < N → I u ≠ 0 → G u = 0 → I v ≤ I u → G' u = Q + 1 := fun u hu hn hg hle => by
    obtain ⟨i, i1, i2⟩ := b3 u hu hn hg
    rw [← i2]
    refine hG i ?_ i1
    apply Classical.byContradiction
    intro q
    have := b2 i k0 (by omega) hk
    rw [hkv, i2] at this
    omega
  have gOut : ∀ u, u < N → I u < I v → G' u = G u := fun u hu hlt => hG' u (fun i hi hi' q => by
    by_cases z : i = k0
    · rw [← q, z, hkv] at hlt; omega
    · have := b2 k0 i (by omega) hi'
      rw [hkv, q] at this; omega)
  have gOld : ∀ u, u < N → G u ≠ 0 → G' u = G u := fun u hu hg => hG' u (fun i hi hi' q => hg (by rw [← q]; exact (b1 i hi').2.2))
  have gUn : ∀ u, u < N → I u = 0 → G' u = 0 := fun u hu h0 => by rw [gOut u hu (by omega), a4 u hu h0]
  -- what has no group still
  have g0 : ∀ u, u < N → I u ≠ 0 → G' u = 0 → G u = 0 ∧ I u < I v := fun u hu hn hg => by
    have q : G u = 0 := Classical.byContradiction fun q => by rw [gOld u hu q] at hg; exact q hg
    refine ⟨q, Classical.byContradiction fun z => ?_⟩
    rw [gIn u hu hn q (by omega)] at hg
    omega
  -- and what has one
  have g3 : ∀ u, u < N → G' u ≠ 0 → (G u ≠ 0 ∧ G' u = G u ∧ G u ≤ Q) ∨ (G u = 0 ∧ I u ≠ 0 ∧ I v ≤ I u ∧ G' u = Q + 1) := fun u hu hg => by
    by_cases q : G u = 0
    · right
      have hn : I u ≠ 0 := fun z => hg (gUn u hu z)
      have hle : I v ≤ I u := Classical.byContradiction fun z => hg (by rw [gOut u hu (by omega)]; exact q)
      exact ⟨q, hn, hle, gIn u hu hn q hle⟩
    · exact Or.inl ⟨q, gOld u hu q, (m1 u hu q).1⟩
  have ktr : ∀ i, i < m → I (tr i) < I v := fun i hi => by
    have := c2 i m hi (by omega)
    rw [hv] at this; exact this
  refine ⟨⟨a1, a2, a3, gUn, a5⟩, ⟨fun i hi => ?_, fun i j hij hj => b2 i j hij (by omega), fun u hu hn hg => ?_⟩, ⟨fun i hi => ?_, fun i j hij hj => c2 i j hij (by omega)⟩, ⟨fun i u hi hu hn hg => d1 i u (by omega) hu hn (g0 u hu hn hg).1, fun u hu hn hg => ?_⟩, fun u hu hn hg => ?_, ⟨g1, fun u hu hn ht => ?_⟩, fun u e hu hn h1 h2 hw => ?_, fun u hu hg => ?_⟩
  · obtain ⟨z1, z2, z3⟩ := b1 i (by omega)
    have := b2 i k0 hi hk
    rw [hkv] at this
    exact ⟨z1, z2, by rw [gOut _ z1 this]; exact z3⟩
  · obtain ⟨y1, y2⟩ := g0 u hu hn hg
    obtain ⟨i, i1, i2⟩ := b3 u hu hn y1
    refine ⟨i, Classical.byContradiction fun z => ?_, i2⟩
    have := hG i (by omega) i1
    rw [i2, hg] at this
    omega
  · obtain ⟨z1, z2, z3⟩ := c1 i (by omega)
    exact ⟨z1, z2, by rw [gOut _ z1 (ktr i hi)]; exact z3⟩
  · obtain ⟨y1, y2⟩ := g0 u hu hn hg
    obtain ⟨i, i1, i2, i3⟩ := d2 u hu hn y1
    refine ⟨i, Classical.byContradiction fun z => ?_, i2, i3⟩
    rw [show i = m by omega, hv] at i2
    omega
  · obtain ⟨y1, y2⟩ := g0 u hu hn hg
    obtain ⟨z1, x, x1, x2, x3, x4, x5⟩ := f1 u hu hn y1
    exact ⟨z1, x, x1, x2, by rw [gOut x x1 (by omega)]; exact x3, x4, x5⟩
  · by_cases q : u = v
    · rw [q]; exact hx
    · refine g2 u hu hn (fun i hi => ?_)
      by_cases q' : i = m
      · rw [q', hv]; exact fun z => q z.symm
      · exact ht i (by omega)
  · obtain ⟨z1, z2⟩ := k1 u e hu hn h1 h2 hw
    have hEe : E e < N := hEN e (Nat.lt_of_lt_of_le (Nat.lt_of_lt_of_le h2 (g1 u hu hn).2) (hA (u + 1) N hu (Nat.le_refl _)))
    refine ⟨z1, fun y1 y2 => ?_⟩
    obtain ⟨w1, w2⟩ := g0 u hu hn y1
    obtain ⟨i, hi, i1, i2, i3⟩ := z2 w1 (g0 _ hEe z1 y2).1
    refine ⟨i, Classical.byContradiction fun z => ?_, i1, i2, fun z => i3 (by omega)⟩
    rw [show i = m by omega, hv] at i1
    omega
  · rcases g3 u hu hg with ⟨y1, y2, y3⟩ | ⟨y1, y2, y3, y4⟩
    · obtain ⟨z1, z2, z3⟩ := m1 u hu y1
      refine ⟨by omega, fun e h1 h2 hw => ?_, fun x hx' hgx => ?_⟩
      · obtain ⟨w1, w2⟩ := z2 e h1 h2 hw
        have hEe : E e < N := hEN e (Nat.lt_of_lt_of_le h2 (hA (u + 1) N hu (Nat.le_refl _)))
        rw [gOld _ hEe w1, y2]; exact ⟨w1, w2⟩
      · rcases g3 x hx' (by rw [hgx]; exact hg) with ⟨w1, w2, w3⟩ | ⟨w1, w2, w3, w4⟩
        · exact z3 x hx' (by rw [← w2, hgx, y2])
        · omega
    · have hfull : X u = A (u + 1) := by
        by_cases q : u = v
        · rw [q]; exact hx
        · refine g2 u hu y2 (fun i hi q' => ?_)
          by_cases w : i = m
          · rw [w, hv] at q'; exact q q'.symm
          · have := ktr i (by omega)
            rw [q'] at this; omega
      refine ⟨by omega, fun e h1 h2 hw => ?_, fun x hx' hgx => ?_⟩
      · have hEe : E e < N := hEN e (Nat.lt_of_lt_of_le h2 (hA (u + 1) N hu (Nat.le_refl _)))
        obtain ⟨z1, z2⟩ := k1 u e hu y2 h1 (by rw [hfull]; exact h2) hw
        by_cases q : G (E e) = 0
        · obtain ⟨i, hi, i1, i2, i3⟩ := z2 y1 q
          have him : i = m := Classical.byContradiction fun w => by
            have h4 := i3 (by omega)
            by_cases w' : i + 1 = m
            · rw [w', hv] at h4; omega
            · have := ktr (i + 1) (by omega)
              omega
          rw [him, hv, hl] at i2
          rw [gIn _ hEe z1 q i2, y4]
          exact ⟨by omega, Nat.le_refl _⟩
        · rw [gOld _ hEe q, y4]
          have := (m1 _ hEe q).1
          exact ⟨q, by omega⟩
      · rcases g3 x hx' (by rw [hgx]; exact hg) with ⟨w1, w2, w3⟩ | ⟨w1, w2, w3, w4⟩
        · omega
        · obtain ⟨j, j1, j2, j3⟩ := d2 u hu y2 y1
          have hjv : rcW A E W (tr j) v := d1 j v j1 v1 v2 v3 (by
            by_cases q : j = m
            · rw [q, hv]; exact Nat.le_refl _
            · exact Nat.le_of_lt (ktr j (by omega)))
          have hvx : rcW A E W v x := by
            have := d1 m x (by omega) hx' w2 w1 (by rw [hv]; exact w3)
            rw [hv] at this; exact this
          exact rcW_t j3 (rcW_t hjv hvx)
/-- a group is what leads to each other -/
theorem TJ.mates (h : TJ A E W N C I L G X no op nn tr Q) (hEN : ∀ e, e < A N → E e < N) (hA : ∀ i j, i ≤ j → j ≤ N → A i ≤ A j) {u : Nat} (hv : v < N) (hu : u < N) (hg : G v ≠ 0) : (rcW A E W v u ∧ rcW A E W u v) ↔ G u = G v := by
  obtain ⟨_, _, _, _, _, _, _, m1⟩ := h
  have go : ∀ a b, a < N → G a ≠ 0 → rcW A E W a b → b < N ∧ G b ≠ 0 ∧ G b ≤ G a := fun a b ha hga hr => hr (fun x => x < N ∧ G x ≠ 0 ∧ G x ≤ G a) ⟨ha, hga, Nat.le_refl _⟩ (fun x e ⟨x1, x2, x3⟩ h1 h2 hw => by
    obtain ⟨_, z2, _⟩ := m1 x x1 x2
    obtain ⟨z3, z4⟩ := z2 e h1 h2 hw
    exact ⟨hEN e (Nat.lt_of_lt_of_le h2 (hA (x + 1) N x1 (Nat.le_refl _))), z3, by omega⟩)
  constructor
  · rintro ⟨h1, h2⟩
    obtain ⟨_, y1, y2⟩ := go v u hv hg h1
    obtain ⟨_, y3, y4⟩ := go u v hu y1 h2
    omega
  · intro he
    exact ⟨(m1 v hv hg).2.2 u hu he, (m1 u hu (by rw [he]; exact hg)).2.2 v hv he.symm⟩
/-- at the start nothing has a number -/
theorem TJ.none (hI : ∀ v, v < N → I v = 0) (hG : ∀ v, v < N → G v = 0) : TJ A E W N 0 I L G X 0 op 0 tr 0 := by
  have e : ∀ n, n ≤ N → sumF (fun v => if I v = 0 then 1 else 0) n = n := by
    intro n
    induction n with
    | zero => intro _; rfl
    | succ n ih =>
      intro h
      show sumF _ n + (if I n = 0 then 1 else 0) = n + 1
      rw [ih (by omega), if_pos (hI n (by omega))]
  refine ⟨⟨by rw [e N (Nat.le_refl _)]; omega, fun v hv => by rw [hI v hv]; exact Nat.le_refl _, fun v u hv _ _ hn => absurd (hI v hv) hn, fun v hv _ => hG v hv, fun v hv hn => absurd (hI v hv) hn⟩, ⟨fun i hi => absurd hi (by omega), fun i j _ hj => absurd hj (by omega), fun v hv hn => absurd (hI v hv) hn⟩, ⟨fun i hi => absurd hi (by omega), fun i j _ hj => absurd hj (by omega)⟩, ⟨fun i u hi => absurd hi (by omega), fun u hu hn => absurd (hI u hu) hn⟩, fun v hv hn => absurd (hI v hv) hn, ⟨fun v hv hn => absurd (hI v hv) hn, fun v hv hn => absurd (hI v hv) hn⟩, fun v e hv hn => absurd (hI v hv) hn, fun v hv hn => absurd (hG v hv) hn⟩
theorem muJ_le (hA : ∀ i j, i ≤ j → j ≤ N → A i ≤ A j) (h : TJ A E W N C I L G X no op nn tr Q) (hn : nn = 0) : muJ A N I X nn ≤ N + A N := by
  obtain ⟨_, _, _, _, _, ⟨g1, _⟩, _⟩ := h
  have e : ∀ n, n ≤ N → sumF (fun v => if I v = 0 then 1 + (A (v + 1) - A v) else A (v + 1) - X v) n ≤ n + (A n - A 0) := by
    intro n
    induction n with
    | zero => intro _; exact Nat.zero_le _
    | succ n ih =>
      intro h
      show sumF _ n + (if I n = 0 then 1 + (A (n + 1) - A n) else A (n + 1) - X n) ≤ _
      have h1 := ih (by omega)
      have h2 := hA n (n + 1) (by omega) h
      have h3 := hA 0 n (by omega) (by omega)
      by_cases q : I n = 0
      · rw [if_pos q]; omega
      · rw [if_neg q]
        have := g1 n (by omega) q
        omega
  have := e N (Nat.le_refl _)
  unfold muJ
  omega
/-- where the trail is empty all that has a number has a group -/
theorem TJ.all (h : TJ A E W N C I L G X no op 0 tr Q) {u : Nat} (hu : u < N) (hn : I u ≠ 0) : G u ≠ 0 := by
  obtain ⟨_, _, _, ⟨_, d2⟩, _⟩ := h
  intro q
  obtain ⟨i, hi, _⟩ := d2 u hu hn q
  omega
end TJT
