/-! MORE FRAMES: what a call gives with d frames it gives with more. -/
theorem qC_up {F G : qFn} (hF : ∀ (y : Nat) (as : List Value) (σ : qS) (r : qR), F y as σ = some r → G y as σ = some r) {pc : Nat} {i : Instr} {x : pX} {ls : List (Nat × Value)} {st : List Value} {σ : qS} {z : pF × qS} (hs : qstepC F pc i x ls st σ = some z) : qstepC G pc i x ls st σ = some z := by
  cases i
  case invokevirtual idx =>
    simp only [qstepC] at hs ⊢
    split at hs
    · rename_i M hM
      try rw [hM]
      try dsimp only
      split at hs
      · rename_i as v r ha
        try rw [ha]
        try dsimp only
        split at hs
        · rename_i hg
          try rw [if_pos hg]
          split at hs
          · rename_i w τ' hw
            cases hs
            rw [hF _ _ _ _ hw]
          · cases hs
        · cases hs
      · cases hs
    · cases hs
  case invokestatic idx =>
    simp only [qstepC] at hs ⊢
    split at hs
    · rename_i h2
      rw [if_pos h2]
      exact hs
    · rename_i h2
      rw [if_neg h2]
      split at hs
      · rename_i M hM
        try rw [hM]
        try dsimp only
        split at hs
        · rename_i as r ha
          try rw [ha]
          try dsimp only
          split at hs
          · rename_i hg
            try rw [if_pos hg]
            split at hs
            · rename_i w τ' hw
              cases hs
              rw [hF _ _ _ _ hw]
            · cases hs
          · cases hs
        · cases hs
      · cases hs
  all_goals (simp [qstepC] at hs)
theorem qrun_up {F G : qFn} (hF : ∀ (y : Nat) (as : List Value) (σ : qS) (r : qR), F y as σ = some r → G y as σ = some r) {en : pN} {ret : Option FieldType} {tab : List pI} : ∀ (n : Nat) (f : pF) (σ : qS) (r : qR), qrun F en ret tab n f σ = some r → qrun G en ret tab n f σ = some r := by
  intro n
  induction n with
  | zero => intro f σ r hs; cases hs
  | succ n ih =>
    intro f σ r hs
    unfold qrun at hs ⊢
    split at hs
    · cases hs
    · rename_i q hq
      split at hs
      · rename_i v hv
        cases hs
        try rw [hq]
        try dsimp only
        try rw [hv]
      · rename_i hv
        try rw [hq]
        try dsimp only
        try rw [hv]
        try dsimp only
        split at hs
        · rename_i y hy
          have hy' : qstep G en f.1 q.1 q.2.2 f.2.1 f.2.2 σ = some y := by
            unfold qstep at hy ⊢
            split at hy
            · rename_i hc
              try rw [hc]
              exact qC_up hF hy
            · rename_i hc
              try rw [hc]
              exact hy
          rw [hy']
          exact ih _ _ _ hs
        · cases hs
theorem qev_up1 {en : pN} : ∀ (d y : Nat) (as : List Value) (σ : qS) (r : qR), qev en d y as σ = some r → qev en (d + 1) y as σ = some r := by
  intro d
  induction d with
  | zero => intro y as σ r hs; cases hs
  | succ d ih =>
    intro y as σ r hs
    have hs : (match msL[y]? with
      | none => none
      | some M => if (lg_sl as).length ≤ M.2.2.1 then qE (qev en d) en M.2.2.2.1 M.2.2.2.2.2.2.2.2 (0, lv_args 0 as, []) σ else none) = some r := hs
    show (match msL[y]? with
      | none => none
      | some M => if (lg_sl as).length ≤ M.2.2.1 then qE (qev en (d + 1)) en M.2.2.2.1 M.2.2.2.2.2.2.2.2 (0, lv_args 0 as, []) σ else none) = some r
    split at hs
    · cases hs
    · rename_i M hM
      try rw [hM]
      try dsimp only
      split at hs
      · rename_i hl
        try rw [if_pos hl]
        obtain ⟨n, hn⟩ := qE_run hs
        exact qE_of (qrun_up ih n _ _ _ hn)
      · cases hs
theorem qev_up {en : pN} {D y : Nat} {as : List Value} {σ : qS} {r : qR} : ∀ (k d : Nat), d + k = D → qev en d y as σ = some r → qev en D y as σ = some r
  | 0, d, h, g => by
    rw [← h]; exact g
  | k + 1, d, h, g => qev_up k (d + 1) (by omega) (qev_up1 d _ _ _ _ g)

