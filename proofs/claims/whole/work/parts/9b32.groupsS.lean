/-! JUDGING: the groups of states that lead to each other, as both find them. -/
def sumF (f : Nat → Nat) : Nat → Nat
  | 0 => 0
  | n + 1 => sumF f n + f n
section SMF
variable {f g : Nat → Nat} {n i : Nat}
theorem sumF_eq : ∀ n, (∀ j, j < n → g j = f j) → sumF g n = sumF f n := by
  intro n
  induction n with
  | zero => intro _; rfl
  | succ n ih =>
    intro h
    show sumF g n + g n = sumF f n + f n
    rw [ih (fun j hj => h j (by omega)), h n (by omega)]
theorem sumF_set : ∀ n, i < n → (∀ j, j ≠ i → g j = f j) → sumF g n + f i = sumF f n + g i := by
  intro n
  induction n with
  | zero => intro h; omega
  | succ n ih =>
    intro hi h
    show sumF g n + g n + f i = sumF f n + f n + g i
    by_cases q : i = n
    · subst q
      rw [sumF_eq (g := g) (f := f) i (fun j hj => h j (by omega))]; omega
    · have := ih (by omega) h
      rw [h n (fun z => q z.symm)]; omega
end SMF
/-- what is come to from u by the steps whose goals are not wanted -/
def rcW (A E : Nat → Nat) (W : Nat → Bool) (u v : Nat) : Prop := ∀ S : Nat → Prop, S u → (∀ a e, S a → A a ≤ e → e < A (a + 1) → W (E e) = false → S (E e)) → S v
section RCW
variable {A E : Nat → Nat} {W : Nat → Bool} {u v z e : Nat}
theorem rcW_r : rcW A E W u u := fun _ h _ => h
theorem rcW_t (h : rcW A E W u v) (g : rcW A E W v z) : rcW A E W u z := fun S s c => g S (h S s c) c
theorem rcW_e (h : rcW A E W u v) (h1 : A v ≤ e) (h2 : e < A (v + 1)) (h3 : W (E e) = false) : rcW A E W u (E e) := fun S s c => c v e (h S s c) h1 h2 h3
end RCW
/-- what holds while groups are looked for: C how many have numbers, I the numbers, L the low numbers, G the groups, X the next step, op the open ones, tr the trail, Q how many groups -/
abbrev TJ (A E : Nat → Nat) (W : Nat → Bool) (N C : Nat) (I L G X : Nat → Nat) (no : Nat) (op : Nat → Nat) (nn : Nat) (tr : Nat → Nat) (Q : Nat) : Prop :=
  (C + sumF (fun v => if I v = 0 then 1 else 0) N = N ∧ (∀ v, v < N → I v ≤ C) ∧ (∀ v u, v < N → u < N → I v = I u → I v ≠ 0 → v = u) ∧ (∀ v, v < N → I v = 0 → G v = 0) ∧ ∀ v, v < N → I v ≠ 0 → W v = false) ∧
  ((∀ i, i < no → op i < N ∧ I (op i) ≠ 0 ∧ G (op i) = 0) ∧ (∀ i j, i < j → j < no → I (op i) < I (op j)) ∧ ∀ v, v < N → I v ≠ 0 → G v = 0 → ∃ i, i < no ∧ op i = v) ∧
  ((∀ i, i < nn → tr i < N ∧ I (tr i) ≠ 0 ∧ G (tr i) = 0) ∧ ∀ i j, i < j → j < nn → I (tr i) < I (tr j)) ∧
  ((∀ i u, i < nn → u < N → I u ≠ 0 → G u = 0 → I (tr i) ≤ I u → rcW A E W (tr i) u) ∧ ∀ u, u < N → I u ≠ 0 → G u = 0 → ∃ i, i < nn ∧ I (tr i) ≤ I u ∧ rcW A E W u (tr i)) ∧
  (∀ v, v < N → I v ≠ 0 → G v = 0 → L v ≤ I v ∧ ∃ u, u < N ∧ I u ≠ 0 ∧ G u = 0 ∧ I u = L v ∧ rcW A E W v u) ∧
  ((∀ v, v < N → I v ≠ 0 → A v ≤ X v ∧ X v ≤ A (v + 1)) ∧ ∀ v, v < N → I v ≠ 0 → (∀ i, i < nn → tr i ≠ v) → X v = A (v + 1)) ∧
  (∀ v e, v < N → I v ≠ 0 → A v ≤ e → e < X v → W (E e) = false → I (E e) ≠ 0 ∧ (G v = 0 → G (E e) = 0 → ∃ i, i < nn ∧ I (tr i) ≤ I v ∧ L (tr i) ≤ I (E e) ∧ (i + 1 < nn → I v < I (tr (i + 1))))) ∧
  (∀ v, v < N → G v ≠ 0 → G v ≤ Q ∧ (∀ e, A v ≤ e → e < A (v + 1) → W (E e) = false → G (E e) ≠ 0 ∧ G (E e) ≤ G v) ∧ ∀ u, u < N → G u = G v → rcW A E W v u)
/-- how much is left to do -/
def muJ (A : Nat → Nat) (N : Nat) (I X : Nat → Nat) (nn : Nat) : Nat := sumF (fun v => if I v = 0 then 1 + (A (v + 1) - A v) else A (v + 1) - X v) N + nn
section TJS
variable {A E : Nat → Nat} {W : Nat → Bool} {N C no nn Q v l i0 : Nat} {I L G X op tr : Nat → Nat}
/-- sorted places -/
theorem TJ.ge {f J : Nat → Nat} (h : ∀ i, i < no → J (f i) ≠ 0) (hs : ∀ i j, i < j → j < no → J (f i) < J (f j)) : ∀ i, i < no → i + 1 ≤ J (f i) := by
  intro i
  induction i with
  | zero => intro hi; have := h 0 hi; omega
  | succ i ih =>
    intro hi
    have := ih (by omega)
    have := hs i (i + 1) (by omega) hi
    omega
theorem TJ.no_le (h : TJ A E W N C I L G X no op nn tr Q) : no ≤ C ∧ nn ≤ C ∧ C ≤ N := by
  obtain ⟨⟨a1, a2, a3, a4, a5⟩, ⟨b1, b2, b3⟩, ⟨c1, c2⟩, _⟩ := h
  have hC : C ≤ N := by omega
  refine ⟨?_, ?_, hC⟩
  · by_cases q : no = 0
    · omega
    · have := TJ.ge (J := I) (fun i hi => (b1 i hi).2.1) b2 (no - 1) (by omega)
      have := a2 (op (no - 1)) (b1 (no - 1) (by omega)).1
      omega
  · by_cases q : nn = 0
    · omega
    · have := TJ.ge (no := nn) (J := I) (f := tr) (fun i hi => (c1 i hi).2.1) c2 (nn - 1) (by omega)
      have := a2 (tr (nn - 1)) (c1 (nn - 1) (by omega)).1
      omega
theorem TJ.room (h : TJ A E W N C I L G X no op nn tr Q) (hv : v < N) (h0 : I v = 0) : C < N := by
  obtain ⟨⟨a1, _⟩, _⟩ := h
  have := sumF_set (f := fun v => if I v = 0 then 1 else 0) (g := at1 (fun v => if I v = 0 then 1 else 0) v 0) N hv (fun j hj => at1_n hj)
  rw [at1_s] at this
  have e : (if I v = 0 then 1 else 0) = 1 := if_pos h0
  simp only [e] at this
  omega
/-- a state gets its number -/
theorem TJ.enter (h : TJ A E W N C I L G X no op nn tr Q) (hv : v < N) (h0 : I v = 0) (hA : A v ≤ A (v + 1)) (hW : W v = false) (hr : ∀ i, i < nn → rcW A E W (tr i) v) :
    TJ A E W N (C + 1) (at1 I v (C + 1)) (at1 L v (C + 1)) G (at1 X v (A v)) (no + 1) (at1 op no v) (nn + 1) (at1 tr nn v) Q ∧ muJ A N (at1 I v (C + 1)) (at1 X v (A v)) (nn + 1) = muJ A N I X nn := by
  have hroom := h.room hv h0
  obtain ⟨⟨a1, a2, a3, a4, a5⟩, ⟨b1, b2, b3⟩, ⟨c1, c2⟩, ⟨d1, d2⟩, f1, ⟨g1, g2⟩, k1, m1⟩ := h
  have hI : ∀ u, u < N → I u ≠ 0 → u ≠ v := fun u _ z q => z (by rw [q]; exact h0)
  have eI : ∀ u, I u ≠ 0 → at1 I v (C + 1) u = I u := fun u z => at1_n (fun q => z (by rw [q]; exact h0))
  have eop : ∀ i, i < no → at1 op no v i = op i := fun i hi => at1_n (by omega)
  have etr : ∀ i, i < nn → at1 tr nn v i = tr i := fun i hi => at1_n (by omega)
  have nz : ∀ u, at1 I v (C + 1) u ≠ 0 → u = v ∨ (u ≠ v ∧ I u ≠ 0) := fun u z => by
    by_cases q : u = v
    · exact Or.inl q
    · right; rw [at1_n q] at z; exact ⟨q, z⟩
  refine ⟨⟨⟨?_, fun u hu => ?_, fun u z hu hz he hn => ?_, fun u hu hn => ?_, fun u hu hn => ?_⟩, ⟨fun i hi => ?_, fun i j hij hj => ?_, fun u hu hn hg => ?_⟩, ⟨fun i hi => ?_, fun i j hij hj => ?_⟩, ⟨fun i u hi hu hn hg hle => ?_, fun u hu hn hg => ?_⟩, fun u hu hn hg => ?_, ⟨fun u hu hn => ?_, fun u hu hn ht => ?_⟩, fun u e hu hn h1 h2 hw => ?_, m1⟩, ?_⟩
  · have := sumF_set (f := fun v => if I v = 0 then 1 else 0) (g := fun u => if at1 I v (C + 1) u = 0 then 1 else 0) N hv (fun j hj => by show (if at1 I v (C + 1) j = 0 then 1 else 0) = _; rw [at1_n hj])
    simp only [at1_s] at this
    rw [if_pos h0, if_neg (by omega)] at this
    omega
  · by_cases q : u = v
    · rw [q, at1_s]; omega
    · rw [at1_n q]; have := a2 u hu; omega
  · by_cases q : u = v
    · by_cases q' : z = v
      · rw [q, q']
      · rw [q, at1_s, at1_n q'] at he
        have := a2 z hz
        omega
    · by_cases q' : z = v
      · rw [q', at1_s, at1_n q] at he
        have := a2 u hu
        omega
      · rw [at1_n q, at1_n q'] at he
        rw [at1_n q] at hn
        exact a3 u z hu hz he hn
  · by_cases q : u = v
    · rw [q]; exact a4 v hv h0
    · rw [at1_n q] at hn; exact a4 u hu hn
  · rcases nz u hn with q | ⟨_, q⟩
    · rw [q]; exact hW
    · exact a5 u hu q
  · by_cases q : i = no
    · rw [q, at1_s, at1_s]; exact ⟨hv, by omega, a4 v hv h0⟩
    · have z := b1 i (by omega)
      rw [eop i (by omega), eI _ z.2.1]; exact z
  · by_cases q : j = no
    · have z := b1 i (by omega)
      rw [q, at1_s, at1_s, eop i (by omega), eI _ z.2.1]
      have := a2 _ z.1
      omega
    · rw [eop i (by omega), eop j (by omega), eI _ (b1 i (by omega)).2.1, eI _ (b1 j (by omega)).2.1]
      exact b2 i j hij (by omega)
  · rcases nz u hn with q | ⟨_, q⟩
    · exact ⟨no, by omega, by rw [at1_s, q]⟩
    · obtain ⟨i, hi, he⟩ := b3 u hu q hg
      exact ⟨i, by omega, by rw [eop i hi, he]⟩
  · by_cases q : i = nn
    · rw [q, at1_s, at1_s]; exact ⟨hv, by omega, a4 v hv h0⟩
    · have z := c1 i (by omega)
      rw [etr i (by omega), eI _ z.2.1]; exact z
  · by_cases q : j = nn
    · have z := c1 i (by omega)
      rw [q, at1_s, at1_s, etr i (by omega), eI _ z.2.1]
      have := a2 _ z.1
      omega
    · rw [etr i (by omega), etr j (by omega), eI _ (c1 i (by omega)).2.1, eI _ (c1 j (by omega)).2.1]
      exact c2 i j hij (by omega)
  · by_cases q : i = nn
    · rw [q, at1_s] at hle ⊢
      rcases nz u hn with q' | ⟨q', q''⟩
      · rw [q']; exact rcW_r
      · rw [at1_s, at1_n q'] at hle
        have := a2 u hu
        omega
    · rw [etr i (by omega)] at hle ⊢
      rcases nz u hn with q' | ⟨q', q''⟩
      · rw [q']; exact hr i (by omega)
      · rw [at1_n q', eI _ (c1 i (by omega)).2.1] at hle
        exact d1 i u (by omega) hu q'' hg hle
  · rcases nz u hn with q' | ⟨q', q''⟩
    · exact ⟨nn, by omega, by rw [at1_s, q']; exact Nat.le_refl _, by rw [at1_s, q']; exact rcW_r⟩
    · obtain ⟨i, hi, h1, h2⟩ := d2 u hu q'' hg
      exact ⟨i, by omega, by rw [etr i hi, eI _ (c1 i hi).2.1, at1_n q']; exact h1, by rw [etr i hi]; exact h2⟩
  · rcases nz u hn with q' | ⟨q', q''⟩
    · rw [q', at1_s, at1_s]
      exact ⟨Nat.le_refl _, v, hv, by rw [at1_s]; omega, a4 v hv h0, at1_s, rcW_r⟩
    · obtain ⟨h1, z, z1, z2, z3, z4, z5⟩ := f1 u hu q'' hg
      rw [at1_n q', at1_n q']
      exact ⟨h1, z, z1, by rw [eI _ z2]; exact z2, z3, by rw [eI _ z2]; exact z4, z5⟩
  · rcases nz u hn with q' | ⟨q', q''⟩
    · rw [q', at1_s]; exact ⟨Nat.le_refl _, hA⟩
    · rw [at1_n q']; exact g1 u hu q''
  · rcases nz u hn with q' | ⟨q', q''⟩
    · exact absurd (by rw [at1_s, q']) (ht nn (by omega))
    · rw [at1_n q']
      exact g2 u hu q'' (fun i hi => by rw [← etr i hi]; exact ht i (by omega))
  · rcases nz u hn with q' | ⟨q', q''⟩
    · rw [q', at1_s] at h2
      rw [q'] at h1
      omega
    · rw [at1_n q'] at h2
      obtain ⟨z1, z2⟩ := k1 u e hu q'' h1 h2 hw
      refine ⟨by rw [eI _ z1]; exact z1, fun y1 y2 => ?_⟩
      obtain ⟨i, hi, i1, i2, i3⟩ := z2 y1 y2
      have ci := c1 i hi
      refine ⟨i, by omega, ?_, ?_, fun hq => ?_⟩
      · rw [etr i hi, eI _ ci.2.1, at1_n q']; exact i1
      · rw [etr i hi, eI _ z1, at1_n (hI _ ci.1 ci.2.1)]; exact i2
      · by_cases w : i + 1 = nn
        · rw [w, at1_s, at1_s, at1_n q']
          have := a2 u hu
          omega
        · rw [etr (i + 1) (by omega), eI _ (c1 (i + 1) (by omega)).2.1, at1_n q']
          exact i3 (by omega)
  · have := sumF_set (f := fun v => if I v = 0 then 1 + (A (v + 1) - A v) else A (v + 1) - X v) (g := fun u => if at1 I v (C + 1) u = 0 then 1 + (A (u + 1) - A u) else A (u + 1) - at1 X v (A v) u) N hv (fun j hj => by show (if at1 I v (C + 1) j = 0 then _ else A (j + 1) - at1 X v (A v) j) = _; rw [at1_n hj, at1_n hj])
    simp only [at1_s] at this
    rw [if_pos h0, if_neg (by omega)] at this
    unfold muJ
    omega
/-- a step looked at -/
theorem TJ.next (h : TJ A E W N C I L G X no op nn tr Q) (hi0 : i0 < nn) (hv : tr i0 = v) (hx : X v < A (v + 1)) (hl : l ≤ L v) (hl' : l = L v ∨ ∃ u, u < N ∧ I u ≠ 0 ∧ G u = 0 ∧ I u = l ∧ rcW A E W v u) (hE : W (E (X v)) = false → I (E (X v)) ≠ 0 ∧ (G (E (X v)) = 0 → l ≤ I (E (X v)))) :
    TJ A E W N C I (at1 L v l) G (at1 X v (X v + 1)) no op nn tr Q ∧ muJ A N I (at1 X v (X v + 1)) nn + 1 = muJ A N I X nn := by
  obtain ⟨⟨a1, a2, a3, a4, a5⟩, ⟨b1, b2, b3⟩, ⟨c1, c2⟩, ⟨d1, d2⟩, f1, ⟨g1, g2⟩, k1, m1⟩ := h
  obtain ⟨v1, v2, v3⟩ := c1 i0 hi0
  rw [hv] at v1 v2 v3
  have lL : ∀ u, at1 L v l u ≤ L u := fun u => by
    by_cases q : u = v
    · rw [q, at1_s]; exact hl
    · rw [at1_n q]; exact Nat.le_refl _
  refine ⟨⟨⟨a1, a2, a3, a4, a5⟩, ⟨b1, b2, b3⟩, ⟨c1, c2⟩, ⟨d1, d2⟩, fun u hu hn hg => ?_, ⟨fun u hu hn => ?_, fun u hu hn ht => ?_⟩, fun u e hu hn h1 h2 hw => ?_, m1⟩, ?_⟩
  · obtain ⟨z1, z2⟩ := f1 u hu hn hg
    refine ⟨Nat.le_trans (lL u) z1, ?_⟩
    by_cases q : u = v
    · rw [q, at1_s]
      rcases hl' with y | y
      · rw [y, ← q]; exact z2
      · exact y
    · rw [at1_n q]; exact z2
  · by_cases q : u = v
    · rw [q, at1_s]
      have := g1 v v1 v2
      omega
    · rw [at1_n q]; exact g1 u hu hn
  · have q : u ≠ v := fun q => ht i0 hi0 (by rw [hv, q])
    rw [at1_n q]; exact g2 u hu hn ht
  · have old : (e < X u) → I (E e) ≠ 0 ∧ (G u = 0 → G (E e) = 0 → ∃ i, i < nn ∧ I (tr i) ≤ I u ∧ at1 L v l (tr i) ≤ I (E e) ∧ (i + 1 < nn → I u < I (tr (i + 1)))) := fun hh => by
      obtain ⟨z1, z2⟩ := k1 u e hu hn h1 hh hw
      refine ⟨z1, fun y1 y2 => ?_⟩
      obtain ⟨i, hi, i1, i2, i3⟩ := z2 y1 y2
      exact ⟨i, hi, i1, Nat.le_trans (lL _) i2, i3⟩
    by_cases q : u = v
    · rw [q, at1_s] at h2
      by_cases q' : e = X v
      · rw [q'] at hw ⊢
        obtain ⟨y1, y2⟩ := hE hw
        refine ⟨y1, fun _ y3 => ⟨i0, hi0, by rw [hv, q]; exact Nat.le_refl _, by rw [hv, at1_s]; exact y2 y3, fun y4 => ?_⟩⟩
        rw [q, ← hv]; exact c2 i0 (i0 + 1) (by omega) y4
      · exact old (by rw [q]; omega)
    · rw [at1_n q] at h2
      exact old h2
  · have := sumF_set (f := fun v => if I v = 0 then 1 + (A (v + 1) - A v) else A (v + 1) - X v) (g := fun u => if I u = 0 then 1 + (A (u + 1) - A u) else A (u + 1) - at1 X v (X v + 1) u) N v1 (fun j hj => by show (if I j = 0 then _ else A (j + 1) - at1 X v (X v + 1) j) = _; rw [at1_n hj])
    simp only [at1_s] at this
    rw [if_neg v2, if_neg v2] at this
    unfold muJ
    omega
end TJS
