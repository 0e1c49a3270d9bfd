/-! JUDGING: from where it is possible never to come. -/
/-- it may go round for ever where v is -/
abbrev lasJ (A E T : Nat → Nat) (W : Nat → Bool) (M : Nat → Nat) (fr : Bool) (v : Nat) : Prop := (∃ a e, rcW A E W v a ∧ rcW A E W a v ∧ A a ≤ e ∧ e < A (a + 1) ∧ W (E e) = false ∧ rcW A E W v (E e) ∧ rcW A E W (E e) v) ∧ (fr = false ∨ ∀ t, t < 4 → ∃ a, rcW A E W v a ∧ rcW A E W a v ∧ (¬ (M a).testBit t = true ∨ ∃ e, A a ≤ e ∧ e < A (a + 1) ∧ W (E e) = false ∧ rcW A E W v (E e) ∧ rcW A E W (E e) v ∧ T e / 10 = t))
/-- from v it is possible that what is wanted never comes -/
abbrev goJ (A E T : Nat → Nat) (W : Nat → Bool) (M : Nat → Nat) (fr : Bool) (v : Nat) : Prop := ∃ u, rcW A E W v u ∧ (M u % 16 = 0 ∨ lasJ A E T W M fr u)
/-- what is lacking is flagged -/
abbrev KJ (A E T : Nat → Nat) (W : Nat → Bool) (M : Nat → Nat) (fr : Bool) (N : Nat) (G : Nat → Nat) (K : Nat → Bool) : Prop := ∀ v, v < N → (K v = true ↔ G v ≠ 0 ∧ goJ A E T W M fr v)
section GOJ
variable {A E T M : Nat → Nat} {W K K' : Nat → Bool} {fr bL : Bool} {N C no nn Q v u k0 : Nat} {I L G G' X op tr I' L' X' op' tr' : Nat → Nat} {no' nn' C' : Nat}
theorem rcW_lt (hEN : ∀ e, e < A N → E e < N) (hA : ∀ i j, i ≤ j → j ≤ N → A i ≤ A j) (hv : v < N) (h : rcW A E W v u) : u < N := h (fun x => x < N) hv (fun x e hx _ h2 _ => hEN e (Nat.lt_of_lt_of_le h2 (hA (x + 1) N hx (Nat.le_refl _))))
theorem KJ_close (hEN : ∀ e, e < A N → E e < N) (hA : ∀ i j, i ≤ j → j ≤ N → A i ≤ A j) (h : TJ A E W N C I L G X no op nn tr Q) (h' : TJ A E W N C' I' L' G' X' no' op' nn' tr' (Q + 1)) (hG : ∀ i, k0 ≤ i → i < no → G' (op i) = Q + 1) (hG' : ∀ u, (∀ i, k0 ≤ i → i < no → op i ≠ u) → G' u = G u) (hb : bL = true ↔ lkG A E T M K fr G' op k0 no (Q + 1)) (hK1 : ∀ i, k0 ≤ i → i < no → K' (op i) = (K (op i) || bL)) (hK2 : ∀ u, (∀ i, k0 ≤ i → i < no → op i ≠ u) → K' u = K u) (hK : KJ A E T W M fr N G K) : KJ A E T W M fr N G' K' := by
  obtain ⟨⟨a1, a2, a3, a4, a5⟩, ⟨b1, b2, b3⟩, _, _, _, _, _, m1⟩ := id h
  obtain ⟨_, _, _, _, _, _, _, m1'⟩ := id h'
  have inR : ∀ x, x < N → G' x = Q + 1 → ∃ i, k0 ≤ i ∧ i < no ∧ op i = x := fun x hx hg => by
    apply Classical.byContradiction
    intro q
    have := hG' x (fun i h1 h2 h3 => q ⟨i, h1, h2, h3⟩)
    by_cases z : G x = 0
    · omega
    · have := (m1 x hx z).1
      omega
  have Wf : ∀ x, x < N → G' x ≠ 0 → W x = false := fun x hx hg => by
    apply a5 x hx
    intro z
    by_cases q : ∀ i, k0 ≤ i → i < no → op i ≠ x
    · rw [hG' x q, a4 x hx z] at hg; exact hg rfl
    · obtain ⟨j', h⟩ := Classical.not_forall.mp q
      obtain ⟨h3, h⟩ := Classical.not_imp.mp h
      obtain ⟨h4, h⟩ := Classical.not_imp.mp h
      have := (b1 j' h4).2.1
      rw [Classical.not_not.mp h] at this
      exact this z
  have ext : ∀ x y, rcW A E W x y → goJ A E T W M fr y → goJ A E T W M fr x := fun x y hxy ⟨z, z1, z2⟩ => ⟨z, rcW_t hxy z1, z2⟩
  intro x hx
  by_cases q : ∀ i, k0 ≤ i → i < no → op i ≠ x
  · rw [hK2 x q, hG' x q]; exact hK x hx
  · obtain ⟨i0, q⟩ := Classical.not_forall.mp q
    obtain ⟨i1, q⟩ := Classical.not_imp.mp q
    obtain ⟨i2, q⟩ := Classical.not_imp.mp q
    have q : op i0 = x := Classical.not_not.mp q
    have gx : G' x = Q + 1 := by rw [← q]; exact hG i0 i1 i2
    have gx0 : G' x ≠ 0 := by rw [gx]; omega
    have k0f : K (op i0) = false := by
      cases hk : K (op i0)
      · rfl
      · exact absurd (b1 i0 i2).2.2 ((hK (op i0) (b1 i0 i2).1).mp hk).1
    have kx : K' x = bL := by rw [← q, hK1 i0 i1 i2, k0f, Bool.false_or]
    have mate : ∀ y, y < N → ((rcW A E W x y ∧ rcW A E W y x) ↔ G' y = Q + 1) := fun y hy => by rw [TJ.mates h' hEN hA hx hy gx0, gx]
    have mop : ∀ i, k0 ≤ i → i < no → rcW A E W x (op i) ∧ rcW A E W (op i) x := fun i h1 h2 => (mate _ (b1 i h2).1).mpr (hG i h1 h2)
    have eN : ∀ i e, i < no → e < A (op i + 1) → E e < N := fun i e hi he => hEN e (Nat.lt_of_lt_of_le he (hA _ N (b1 i hi).1 (Nat.le_refl _)))
    rw [kx, hb]
    constructor
    · rintro (⟨i, h1, h2, h3⟩ | ⟨i, h1, h2, e, e1, e2, e3⟩ | ⟨⟨i, h1, h2, e, e1, e2, e3⟩, hf⟩)
      · exact ⟨gx0, op i, (mop i h1 h2).1, Or.inl h3⟩
      · have hEe := eN i e h2 e2
        obtain ⟨g1, g2⟩ := (hK (E e) hEe).mp e3
        have gz : G' (E e) ≠ 0 := by
          by_cases q' : ∀ i, k0 ≤ i → i < no → op i ≠ E e
          · rw [hG' _ q']; exact g1
          · obtain ⟨j', h⟩ := Classical.not_forall.mp q'
            obtain ⟨h3, h⟩ := Classical.not_imp.mp h
            obtain ⟨h4, h⟩ := Classical.not_imp.mp h
            rw [← Classical.not_not.mp h, hG j' h3 h4]; omega
        exact ⟨gx0, ext x (E e) (rcW_e (mop i h1 h2).1 e1 e2 (Wf _ hEe gz)) g2⟩
      · have hEe := eN i e h2 e2
        have me := (mate _ hEe).mpr e3
        have we := Wf _ hEe (by rw [e3]; omega)
        refine ⟨gx0, x, rcW_r, Or.inr ⟨⟨op i, e, (mop i h1 h2).1, (mop i h1 h2).2, e1, e2, we, me.1, me.2⟩, hf.elim Or.inl (fun hf => Or.inr fun t ht => ?_)⟩⟩
        rcases hf t ht with ⟨j, j1, j2, j3⟩ | ⟨j, j1, j2, e', f1, f2, f3, f4⟩
        · exact ⟨op j, (mop j j1 j2).1, (mop j j1 j2).2, Or.inl j3⟩
        · have hEe' := eN j e' j2 f2
          have me' := (mate _ hEe').mpr f3
          exact ⟨op j, (mop j j1 j2).1, (mop j j1 j2).2, Or.inr ⟨e', f1, f2, Wf _ hEe' (by rw [f3]; omega), me'.1, me'.2, f4⟩⟩
    · rintro ⟨_, z, z1, z2⟩
      apply Classical.byContradiction
      intro hn
      have hz := z1 (fun y => y < N ∧ (G' y = Q + 1 ∨ (G' y ≠ 0 ∧ ¬ goJ A E T W M fr y))) ⟨hx, Or.inl gx⟩ (fun y e ⟨y1, y2⟩ h1 h2 hw => by
        have hEe : E e < N := hEN e (Nat.lt_of_lt_of_le h2 (hA _ N y1 (Nat.le_refl _)))
        refine ⟨hEe, ?_⟩
        have gy : G' y ≠ 0 := by
          rcases y2 with w | w
          · rw [w]; omega
          · exact w.1
        have ge := ((m1' y y1 gy).2.1 e h1 h2 hw).1
        by_cases w : G' (E e) = Q + 1
        · exact Or.inl w
        · refine Or.inr ⟨ge, fun hgo => ?_⟩
          rcases y2 with w' | w'
          · obtain ⟨i, h3, h4, h5⟩ := inR y y1 w'
            have gq : G' (E e) = G (E e) := hG' _ (fun i h1 h2 h3 => w (by rw [← h3]; exact hG i h1 h2))
            refine hn (Or.inr (Or.inl ⟨i, h3, h4, e, by rw [h5]; exact h1, by rw [h5]; exact h2, ?_⟩))
            exact (hK _ hEe).mpr ⟨by rw [← gq]; exact ge, hgo⟩
          · exact w'.2 (ext y (E e) (rcW_e rcW_r h1 h2 hw) hgo))
      obtain ⟨hzN, hz⟩ := hz
      rcases hz with hz | hz
      · obtain ⟨i, h3, h4, h5⟩ := inR z hzN hz
        rcases z2 with z2 | ⟨⟨a, e, l1, l2, l3, l4, l5, l6, l7⟩, lf⟩
        · exact hn (Or.inl ⟨i, h3, h4, by rw [h5]; exact z2⟩)
        · have gz0 : G' z ≠ 0 := by rw [hz]; omega
          have mz : ∀ y, y < N → rcW A E W z y → rcW A E W y z → G' y = Q + 1 := fun y hy p1 p2 => by rw [(TJ.mates h' hEN hA hzN hy gz0).mp ⟨p1, p2⟩, hz]
          have ha := rcW_lt hEN hA hzN l1
          obtain ⟨j, j1, j2, j3⟩ := inR a ha (mz a ha l1 l2)
          refine hn (Or.inr (Or.inr ⟨⟨j, j1, j2, e, by rw [j3]; exact l3, by rw [j3]; exact l4, mz _ (rcW_lt hEN hA hzN l6) l6 l7⟩, lf.elim Or.inl (fun lf => Or.inr fun t ht => ?_)⟩))
          obtain ⟨b, p1, p2, p3⟩ := lf t ht
          have hbN := rcW_lt hEN hA hzN p1
          obtain ⟨j', j1', j2', j3'⟩ := inR b hbN (mz b hbN p1 p2)
          rcases p3 with p3 | ⟨e', p3, p4, p5, p6, p7, p8⟩
          · exact Or.inl ⟨j', j1', j2', by rw [j3']; exact p3⟩
          · exact Or.inr ⟨j', j1', j2', e', by rw [j3']; exact p3, by rw [j3']; exact p4, mz _ (rcW_lt hEN hA hzN p6) p6 p7, p8⟩
      · exact hz.2 ⟨z, rcW_r, z2⟩
end GOJ
