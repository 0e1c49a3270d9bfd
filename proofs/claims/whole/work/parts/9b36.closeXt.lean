/-! JUDGING, the class's side: a group is closed, whole. -/
section CLK
variable {en : pN} {d N C no nn Q v k0 : Nat} {I L G X op tr A E T M : Nat → Nat} {s s' s'' τ : qS} {W B R K : Nat → Bool} {fr : Bool} {r : qR}
/-- the states of a group, one by one -/
theorem x_clStates (hN : N ≤ 20000) (hAN : A N ≤ 200000) (hA : ∀ i j, i ≤ j → j ≤ N → A i ≤ A j) (hG : cjG A E T N s) {G' : Nat → Nat} (hg : ∀ v, v < 20000 → s.1 107 v = nI (G' v)) (hGb : ∀ v, v < N → G' v ≤ 20000) (hQ : s.1 103 12 = nI (Q + 1)) (hQb : Q < 20000) (hf : ∀ v, v < N → s.1 104 v = fgV (W v) (B v) (R v) (K v)) (hM : ∀ v, v < N → s.1 93 v = nI (M v)) (hMb : ∀ v, v < N → M v < 2 ^ 30) (h10 : s.1 103 10 = nI no) (ho : ∀ i, i < no → s.1 108 i = nI (op i) ∧ op i < N) (hno : no ≤ 20000) {k0 : Nat}
    (hx : ∀ bL : Bool, (bL = true ↔ (∃ i, k0 ≤ i ∧ i < no ∧ M (op i) % 16 = 0) ∨ grE A E op k0 no (fun e => K (E e) = true) ∨ (grE A E op k0 no (fun e => G' (E e) = Q + 1) ∧ (fr = false ∨ ∀ t, t < 4 → (∃ i, k0 ≤ i ∧ i < no ∧ ¬ (M (op i)).testBit t = true) ∨ grE A E op k0 no (fun e => G' (E e) = Q + 1 ∧ T e / 10 = t)))) → L_X2_close_269 en (d + 1) (nI k0) (bt bL) (nI k0) s = some r) :
    ∀ (m i : Nat) (b4 b5 : Bool) (x6 : Int32), k0 ≤ i → i + m = no → (b4 = true ↔ (∃ j, k0 ≤ j ∧ j < i ∧ M (op j) % 16 = 0) ∨ grE A E op k0 i (fun e => K (E e) = true)) → (b5 = true ↔ grE A E op k0 i (fun e => G' (E e) = Q + 1)) → (∀ t, t < 4 → (bI' x6 t ↔ (∃ j, k0 ≤ j ∧ j < i ∧ ¬ (M (op j)).testBit t = true) ∨ grE A E op k0 i (fun e => G' (E e) = Q + 1 ∧ T e / 10 = t))) →
      L_X2_close_59 en (d + 1) (bt fr) (nI k0) (bt b4) (bt b5) x6 (nI i) s = some r := by
  intro m
  induction m with
  | zero =>
    intro i b4 b5 x6 hki hi h4 h5 h6
    have hi' : i = no := by omega
    subst hi'
    refine le_X2_close_59 en _ _ _ _ _ _ _ _ _ ?_
    rw [h10, if_pos (by rw [n_LE (by omega) (by omega)]; omega)]
    have m15 : (x6 &&& (15 : Int32) = 15) ↔ ∀ t, t < 4 → bI' x6 t := msk_all (k := 4) (by decide)
    have fin : ∀ bL : Bool, (bL = true ↔ b4 = true ∨ (b5 = true ∧ (fr = false ∨ ∀ t, t < 4 → bI' x6 t))) → L_X2_close_269 en (d + 1) (nI k0) (bt bL) (nI k0) s = some r := fun bL hb => by
      refine hx bL ?_
      rw [hb, h4, h5, or_assoc]
      refine or_congr Iff.rfl (or_congr Iff.rfl (and_congr Iff.rfl (or_congr Iff.rfl ?_)))
      exact ⟨fun z t ht => (h6 t ht).mp (z t ht), fun z t ht => (h6 t ht).mpr (z t ht)⟩
    cases hb4 : b4
    · rw [if_neg (show ¬ ¬ bt false = (0 : Int32) from not_not_intro rfl)]
      cases hb5 : b5
      · rw [if_pos (show bt false = (0 : Int32) from rfl)]
        exact fin false (by rw [hb4, hb5]; exact ⟨fun z => Bool.noConfusion z, fun z => z.elim (fun w => Bool.noConfusion w) (fun w => Bool.noConfusion w.1)⟩)
      · rw [if_neg (show ¬ bt true = (0 : Int32) by decide)]
        cases hfr : fr
        · rw [if_pos (show bt false = (0 : Int32) from rfl)]
          exact fin true (by rw [hb4, hb5, hfr]; exact ⟨fun _ => Or.inr ⟨rfl, Or.inl rfl⟩, fun _ => rfl⟩)
        · rw [if_neg (show ¬ bt true = (0 : Int32) by decide)]
          by_cases q : x6 &&& (15 : Int32) = 15
          · rw [if_neg (not_not_intro q)]
            exact fin true (by rw [hb4, hb5]; exact ⟨fun _ => Or.inr ⟨rfl, Or.inr (m15.mp q)⟩, fun _ => rfl⟩)
          · rw [if_pos q]
            exact fin false (by rw [hb4, hb5, hfr]; exact ⟨fun z => Bool.noConfusion z, fun z => z.elim (fun w => Bool.noConfusion w) (fun w => w.2.elim (fun w => Bool.noConfusion w) (fun w => absurd (m15.mpr w) q))⟩)
    · rw [if_pos (show ¬ bt true = (0 : Int32) by decide)]
      exact fin true (by rw [hb4]; exact ⟨fun _ => Or.inl rfl, fun _ => rfl⟩)
  | succ m ih =>
    intro i b4 b5 x6 hki hi h4 h5 h6
    obtain ⟨o1, o2⟩ := ho i (by omega)
    have hA0 := hG.1 (op i) (by omega)
    have hAm : A (op i) ≤ A (op i + 1) := hA _ _ (by omega) o2
    refine le_X2_close_59 en _ _ _ _ _ _ _ _ _ ?_
    rw [h10, if_neg (by rw [n_LE (by omega) (by omega)]; omega), gd_in (by omega) (by decide), n_cl (by omega), o1, nm_eq, x_readyTh hM o2 hN, bI_some, nm_eq]
    have mb := hMb _ o2
    have spE : ∀ p : Nat → Prop, grE A E op k0 (i + 1) p ↔ grE A E op k0 i p ∨ ∃ e, A (op i) ≤ e ∧ e < A (op i + 1) ∧ p e := fun p => by
      constructor
      · rintro ⟨j, j1, j2, j3⟩
        by_cases q : j = i
        · right; rw [← q]; exact j3
        · exact Or.inl ⟨j, j1, by omega, j3⟩
      · rintro (⟨j, j1, j2, j3⟩ | h)
        · exact ⟨j, j1, by omega, j3⟩
        · exact ⟨i, hki, by omega, h⟩
    have spM : ∀ p : Nat → Prop, (∃ j, k0 ≤ j ∧ j < i + 1 ∧ p (op j)) ↔ (∃ j, k0 ≤ j ∧ j < i ∧ p (op j)) ∨ p (op i) := fun p => by
      constructor
      · rintro ⟨j, j1, j2, j3⟩
        by_cases q : j = i
        · right; rw [← q]; exact j3
        · exact Or.inl ⟨j, j1, by omega, j3⟩
      · rintro (⟨j, j1, j2, j3⟩ | h)
        · exact ⟨j, j1, by omega, j3⟩
        · exact ⟨i, hki, by omega, h⟩
    have e15 : (nI (M (op i)) &&& (15 : Int32)) = nI (M (op i) % 16) := nI_and (k := 4) (by omega) (by decide)
    have bits : ∀ t, t < 4 → (bI' (x6 ||| ((nI (M (op i)) &&& (15 : Int32)) ^^^ (-1 : Int32))) t ↔ bI' x6 t ∨ ¬ (M (op i)).testBit t = true) := fun t ht => by
      rw [msk_or, msk_not (by omega), msk_15 ht, msk_nI (by omega)]
    have go : ∀ c4 : Bool, (c4 = true ↔ b4 = true ∨ M (op i) % 16 = 0) → L_X2_close_115 en (d + 1) (bt fr) (nI k0) (bt b5) (x6 ||| ((nI (M (op i)) &&& (15 : Int32)) ^^^ (-1 : Int32))) (nI i) (nI (op i)) (bt c4) s = some r := fun c4 hc4 => by
      refine le_X2_close_115 en _ _ _ _ _ _ _ _ _ _ ?_
      rw [gd_in (by omega) (by decide), n_cl (by omega), hA0, nm_eq]
      refine x_clEdges hN hAN hA hG hg hGb hQ hQb hf o2 (A (op i + 1) - A (op i)) (A (op i)) c4 b5 _ (Nat.le_refl _) (by omega) (fun b4' b5' x6' g4 g5 g6 => ?_)
      rw [show nI i + (1 : Int32) = nI (i + 1) from n_ar]
      refine ih (i + 1) b4' b5' x6' (by omega) (by omega) ?_ ?_ (fun t ht => ?_)
      · rw [g4, hc4, h4, spE, spM (fun u => M u % 16 = 0)]
        constructor
        · rintro ((((h | h) | h)) | h)
          · exact Or.inl (Or.inl h)
          · exact Or.inr (Or.inl h)
          · exact Or.inl (Or.inr h)
          · exact Or.inr (Or.inr h)
        · rintro ((h | h) | (h | h))
          · exact Or.inl (Or.inl (Or.inl h))
          · exact Or.inl (Or.inr h)
          · exact Or.inl (Or.inl (Or.inr h))
          · exact Or.inr h
      · rw [g5, h5, spE]
      · rw [g6 t ht, bits t ht, h6 t ht, spE, spM (fun u => ¬ (M u).testBit t = true)]
        constructor
        · rintro ((((h | h) | h)) | h)
          · exact Or.inl (Or.inl h)
          · exact Or.inr (Or.inl h)
          · exact Or.inl (Or.inr h)
          · exact Or.inr (Or.inr h)
        · rintro ((h | h) | (h | h))
          · exact Or.inl (Or.inl (Or.inl h))
          · exact Or.inl (Or.inr h)
          · exact Or.inl (Or.inl (Or.inr h))
          · exact Or.inr h
    cases hb4 : b4
    · rw [if_neg (show ¬ ¬ bt false = (0 : Int32) from not_not_intro rfl), x_readyTh hM o2 hN, bI_some]
      by_cases q : M (op i) % 16 = 0
      · rw [if_neg (by rw [e15, q]; exact not_not_intro rfl)]
        exact go true (by rw [hb4]; exact ⟨fun _ => Or.inr q, fun _ => rfl⟩)
      · rw [if_pos (by rw [e15, n_eq (by decide) (by omega)]; exact q)]
        exact go false (by rw [hb4]; exact ⟨fun z => Bool.noConfusion z, fun z => z.elim (fun w => Bool.noConfusion w) (fun w => absurd w q)⟩)
    · rw [if_pos (show ¬ bt true = (0 : Int32) by decide)]
      exact go true (by rw [hb4]; exact ⟨fun _ => Or.inl rfl, fun _ => rfl⟩)
end CLK
