/-! THE HISTORY, the class's side: which call may be the next. -/
section MN
variable {en : pN} {d n i : Nat} {σ : qS} {C : Nat → fI} {O : fI} {x : Int32}
abbrev plc (x : Int32) (k : Nat) : Prop := ¬ ((x >>> (nI k &&& 31)) &&& (1 : Int32)) = 0
abbrev endB (C : Nat → fI) (i j : Nat) : Prop := ¬ C 4 j < 0 ∧ ¬ C 3 i ≤ C 4 j
theorem x_mayBe (hn : n ≤ 200) (hi : i < 200) : ∃ rb : Bool, qev en (d + 1) 16 [.ref 125, .int (nI i), .int x] (gS σ (nI n) C O) = some (some (.int (bt rb)), gS σ (nI n) C O) ∧ (rb = true ↔ ¬ plc x i ∧ ∀ j, j < n → endB C i j → plc x j) := by
  have loop : ∀ (m j : Nat), j + m = n → ∃ rb : Bool, L_X1_mayBeNext_12 en d (nI i) x (nI j) (gS σ (nI n) C O) = some (some (.int (bt rb)), gS σ (nI n) C O) ∧ (rb = true ↔ ∀ k, j ≤ k → k < n → endB C i k → plc x k) := by
    intro m
    induction m with
    | zero =>
      intro j hj
      refine ⟨true, le_X1_mayBeNext_12 en d _ _ _ _ _ ?_, ⟨fun _ k h1 h2 => by omega, fun _ => rfl⟩⟩
      rw [gS_n, if_pos (by rw [n_LE (by omega) (by omega)]; omega)]
      rfl
    | succ m ih =>
      intro j hj
      obtain ⟨rb, e, q⟩ := ih (j + 1) (by omega)
      have e4 : (gS σ (nI n) C O).1 131 = C 4 := gS_C (r := 4) (by decide)
      have e3 : (gS σ (nI n) C O).1 130 = C 3 := gS_C (r := 3) (by decide)
      have skip : (endB C i j → plc x j) → (rb = true ↔ ∀ k, j ≤ k → k < n → endB C i k → plc x k) := by
        intro hh
        rw [q]
        refine ⟨fun z k h1 h2 => ?_, fun z k h1 h2 => z k (by omega) h2⟩
        by_cases w : k = j
        · subst w; exact hh
        · exact z k (by omega) h2
      have top : ∀ r, (if C 4 j < 0 then L_X1_mayBeNext_55 en d (nI i) x (nI j) 0 (gS σ (nI n) C O) else if C 3 i ≤ C 4 j then L_X1_mayBeNext_55 en d (nI i) x (nI j) 0 (gS σ (nI n) C O) else L_X1_mayBeNext_55 en d (nI i) x (nI j) 1 (gS σ (nI n) C O)) = some r → L_X1_mayBeNext_12 en d (nI i) x (nI j) (gS σ (nI n) C O) = some r := by
        intro r hh
        refine le_X1_mayBeNext_12 en d _ _ _ _ _ ?_
        rw [gS_n, if_neg (by rw [n_LE (by omega) (by omega)]; omega), gd_true (n_in (by omega) (by decide)), gd_true (n_in hi (by decide)), e4, e3, n_cl (by omega), n_cl (by omega)]
        exact hh
      have z55 : L_X1_mayBeNext_55 en d (nI i) x (nI j) 0 (gS σ (nI n) C O) = some (some (.int (bt rb)), gS σ (nI n) C O) := by
        refine le_X1_mayBeNext_55 en d _ _ _ _ _ _ ?_
        rw [if_pos rfl, n_ar]
        exact e
      by_cases a : C 4 j < 0
      · exact ⟨rb, top _ (by rw [if_pos a]; exact z55), skip (fun w => absurd a w.1)⟩
      by_cases b : C 3 i ≤ C 4 j
      · exact ⟨rb, top _ (by rw [if_neg a, if_pos b]; exact z55), skip (fun w => absurd b w.2)⟩
      by_cases c : plc x j
      · refine ⟨rb, top _ ?_, skip (fun _ => c)⟩
        rw [if_neg a, if_neg b]
        refine le_X1_mayBeNext_55 en d _ _ _ _ _ _ ?_
        rw [if_neg (by decide), if_pos c, n_ar]
        exact e
      · refine ⟨false, top _ ?_, ⟨fun z => (by cases z), fun z => absurd (z j (Nat.le_refl _) (by omega) ⟨a, b⟩) c⟩⟩
        rw [if_neg a, if_neg b]
        refine le_X1_mayBeNext_55 en d _ _ _ _ _ _ ?_
        rw [if_neg (by decide), if_neg c]
        rfl
  obtain ⟨rb, e, q⟩ := loop n 0 (by omega)
  by_cases a : plc x i
  · refine ⟨false, le_X1_mayBeNext en d _ _ _ _ ?_, ⟨fun z => (by cases z), fun z => absurd a z.1⟩⟩
    rw [if_neg a]
    rfl
  · refine ⟨rb, le_X1_mayBeNext en d _ _ _ _ ?_, ?_⟩
    · rw [if_pos (Decidable.not_not.mp a)]
      exact e
    · rw [q]
      exact ⟨fun z => ⟨a, fun j hj => z j (Nat.zero_le _) hj⟩, fun z j _ hj => z.2 j hj⟩
end MN
