/-! THE MODEL'S MACHINE: start; locks. -/
section ML5
variable {en : pN} {d t i n top k K w e a c l u ch nc nl nt vv j m p : Nat} {v x z : Int32} {q : Nat} {σ : qS} {F s y g N : fI} {P : Nat → fI} {D : Int64}
/-- what comes of a line: it goes wrong, or the row is this one -/
abbrev resM (w : Nat) (N : fI) (t : Nat) (A : Int32 × fI) (F F' s' y y' : fI) : Prop := if ¬ A.1 = 0 then F' 69 = 21 ∧ MR w (wrg N t A.1) s' ∧ y' = upd y t A.1 else F' 69 = F 69 ∧ MR w A.2 s' ∧ y' = y
theorem m_other (hB : σ.1 181 (4 * vv + u) = x) (hx : x = -2 ∨ ∃ j, x = nI j ∧ j < 100) (h5 : P 5 u = uv x) (hF : MF F w vv nc nl nt) (hR : MR w N s) (hw2 : w ≤ 2) (hv : vv ≤ 3) (ht : t < 4) (hu : u < 4) (htu : N t = 1) : ∃ (F' s' y' : fI), qev en (d + 3) 326 [.ref 151, .int (nI t), .int (nI u)] (mM σ F s y g D) = some (none, mM σ F' s' y' g D) ∧ FE F F' ∧ F' 62 = F 62 ∧ F' 68 = F 68 ∧ F' 70 = F 70 ∧ F' 71 = F 71 ∧ F' 73 = F 73 ∧ resM w N t (metS P N t u 10) F F' s' y y' := by
  have est := mr_st hR hu
  unfold metS
  rw [if_pos rfl]
  by_cases h0 : N u = 0
  · simp only [h0, not_true, if_false]
    have hut : u ≠ t := fun q => by rw [q, htu] at h0; exact absurd h0 (by decide)
    have hf : ∀ (M M' : fI), MR w M M' → M u = 0 → ∃ s', L_X12_beginOther_46 en (d + 2) (nI u) (mM σ F M' y g D) = some (none, mM σ F s' y g D) ∧ MR w (gto M u (uv x)) s' := by
      intro M M' hM hMu
      obtain ⟨s', h1, h2⟩ := m_begin (en := en) (d := d) (σ := σ) (F := F) (y := y) (g := g) (D := D) hB hx hF hM hv hu hMu
      refine ⟨s', le_X12_beginOther_46 en (d + 2) _ _ _ ?_, h2⟩
      rw [h1, bV_some]
    by_cases h : w = 2
    · subst h
      have g1 := uw_v (j := 204 + u) (v := N (224 + t)) hR (by omega) (by omega)
      rw [show 204 + u + 20 = 224 + u by omega] at g1
      obtain ⟨s', h1, h2⟩ := hf _ _ g1 (by rw [pk_un (by omega)]; exact h0)
      have ev : s (204 + t) = N (224 + t) := by rw [mr_v hR (by omega) (by omega), show 204 + t + 20 = 224 + t by omega]
      refine ⟨F, s', y, le_X12_beginOther en (d + 2) _ _ _ _ ?_, FE.rf, rfl, rfl, rfl, rfl, rfl, rfl, ?_, rfl⟩
      · simp (disch := omega) only [n_al, n_in, gdT, n_cl, mM_s, est, h0, Nat.zero_add, if_true, mM_F, hF.2.2.2.1, n_eq, not_true, if_false, ev, nm_eq, mM_ws]
        exact h1
      · rw [h5]
        have : upd (gto N u (uv x)) (224 + u) (N (224 + t)) = gto (upd N (224 + u) (N (224 + t))) u (uv x) := by
          unfold gto
          rw [upd_cm (show u ≠ 224 + u by omega), upd_cm (show 4 + u ≠ 224 + u by omega)]
        rw [this]
        exact h2
    · obtain ⟨s', h1, h2⟩ := hf _ _ hR h0
      refine ⟨F, s', y, le_X12_beginOther en (d + 2) _ _ _ _ ?_, FE.rf, rfl, rfl, rfl, rfl, rfl, rfl, ?_, rfl⟩
      · simp (disch := omega) only [n_al, n_in, gdT, n_cl, mM_s, est, h0, Nat.zero_add, if_true, mM_F, hF.2.2.2.1, n_eq, h, not_false_eq_true]
        exact h1
      · rw [h5]
        exact uw_nv h2 h hw2 (by omega)
  · obtain ⟨s', h1, h2⟩ := m_wrong (en := en) (d := d + 1) (σ := σ) (F := F) (y := y) (g := g) (D := D) (x := 3) hR ht
    refine ⟨upd F 69 21, s', upd y t 3, le_X12_beginOther en (d + 2) _ _ _ _ ?_, FE.up (by decide) (by decide), pk_un (by decide), pk_un (by decide), pk_un (by decide), pk_un (by decide), pk_un (by decide), ?_⟩
    · simp (disch := omega) only [n_al, n_in, gdT, n_cl, mM_s, est, h0, Nat.zero_add, if_false, h1, bV_some]
    · simp only [h0, not_false_eq_true, if_true]
      exact ⟨pk_us, h2, rfl⟩
theorem m_wak (hk : k = 8 ∨ k = 9) (hB0 : σ.1 164 (100 * vv + i) = nI k) (hB : ∀ i, i < n → σ.1 166 (100 * vv + i) = P 9 i) (hF : MF F w vv nc nl nt) (hR : MR w N s) (hv : vv ≤ 3) (hnt : nt ≤ 4) (hn : n ≤ 100) (hi : i < 100) (hch : ch < 100) (hs : ∀ u, u < nt → N u = 2 → ∃ i, N (4 + u) = nI i ∧ i < n) : ∃ s' : fI, L_X12_doLock_150 en (d + 1) (nI (100 * vv + i)) (nI ch) (nI l) 0 0 (mM σ F s y g D) = some (none, mM σ F s' y g D) ∧ MR w (wak P N l (if k = 8 then some ch else none) nt) s' := by
  have o164 : ∀ (s : fI), (mM σ F s y g D).1 164 = σ.1 164 := fun s => mM_o (by decide) (by decide) (by decide) (by decide)
  have o166 : ∀ (s : fI), (mM σ F s y g D).1 166 = σ.1 166 := fun s => mM_o (by decide) (by decide) (by decide) (by decide)
  have go : ∀ (kk u : Nat) (s1 : fI), u + kk = nt → MR w (wak P N l (if k = 8 then some ch else none) u) s1 → ∃ s' : fI, L_X12_doLock_150 en (d + 1) (nI (100 * vv + i)) (nI ch) (nI l) (nI (wts P N l u)) (nI u) (mM σ F s1 y g D) = some (none, mM σ F s' y g D) ∧ MR w (wak P N l (if k = 8 then some ch else none) nt) s' := by
    intro kk
    induction kk with
    | zero =>
      intro u s1 hu hM
      obtain rfl : u = nt := by omega
      refine ⟨s1, le_X12_doLock_150 en (d + 1) _ _ _ _ _ _ _ ?_, hM⟩
      simp (disch := omega) only [mM_F, hF.2.2.1, n_LE, if_pos]
    | succ kk ih =>
      intro u s1 hu hM
      have est := mr_st hM (show u < 4 by omega)
      rw [wak_o u u (Nat.le_refl _)] at est
      have e4 : wak P N l (if k = 8 then some ch else none) u (4 + u) = N (4 + u) := wak_o u _ (by omega)
      have hle := @wts_le l P N u
      -- the thread isn't one that waits for the lock
      have skip : wtf P N u l = false → ∃ s' : fI, L_X12_doLock_150 en (d + 1) (nI (100 * vv + i)) (nI ch) (nI l) (nI (wts P N l u)) (nI (u + 1)) (mM σ F s1 y g D) = some (none, mM σ F s' y g D) ∧ MR w (wak P N l (if k = 8 then some ch else none) nt) s' := by
        intro hf
        have h := ih (u + 1) s1 (by omega) (by
          rw [show wak P N l (if k = 8 then some ch else none) (u + 1) = (if wtf P N u l = true ∧ ((if k = 8 then some ch else none) = none ∨ (if k = 8 then some ch else none) = some (wts P N l u)) then upd (wak P N l (if k = 8 then some ch else none) u) u 3 else wak P N l (if k = 8 then some ch else none) u) from rfl, hf, if_neg (fun z => absurd z.1 (by decide))]
          exact hM)
        rw [show wts P N l (u + 1) = wts P N l u + (if wtf P N u l = true then 1 else 0) from rfl, hf, if_neg (by decide), Nat.add_zero] at h
        exact h
      by_cases h2 : N u = 2
      · obtain ⟨i2, hi2, hin⟩ := hs u (by omega) h2
        have hml := m_line (en := en) (d := d) (σ := σ) (F := F) (y := y) (g := g) (D := D) hF hM (show u < 4 by omega) hv (e4.trans hi2) (by omega)
        by_cases h3 : P 9 i2 = nI l
        · have hf : wtf P N u l = true := by
            unfold wtf
            rw [hi2, n_clp (by omega)]
            exact decide_eq_true ⟨h2, h3⟩
          have hstep : ∀ zz : Int32, (zz = if (if k = 8 then some ch else none) = none ∨ (if k = 8 then some ch else none) = some (wts P N l u) then 3 else 2) → ∃ s' : fI, L_X12_doLock_218 en (d + 1) (nI (100 * vv + i)) (nI ch) (nI l) (nI (wts P N l u)) (nI u) (nI u) zz (mM σ F s1 y g D) = some (none, mM σ F s' y g D) ∧ MR w (wak P N l (if k = 8 then some ch else none) nt) s' := by
            intro zz hzz
            have hM' : MR w (wak P N l (if k = 8 then some ch else none) (u + 1)) (upd s1 u zz) := by
              rw [show wak P N l (if k = 8 then some ch else none) (u + 1) = (if wtf P N u l = true ∧ ((if k = 8 then some ch else none) = none ∨ (if k = 8 then some ch else none) = some (wts P N l u)) then upd (wak P N l (if k = 8 then some ch else none) u) u 3 else wak P N l (if k = 8 then some ch else none) u) from rfl]
              by_cases hc : (if k = 8 then some ch else none) = none ∨ (if k = 8 then some ch else none) = some (wts P N l u)
              · rw [if_pos ⟨hf, hc⟩]
                rw [if_pos hc] at hzz
                rw [hzz]
                exact uw_st hM (by omega) (by decide) (by rw [wak_o u u (Nat.le_refl _), h2]; decide)
              · rw [if_neg (fun z => hc z.2)]
                rw [if_neg hc] at hzz
                rw [hzz, upd_id (by rw [est, h2])]
                exact hM
            obtain ⟨s', h1, h4⟩ := ih (u + 1) _ (by omega) hM'
            refine ⟨s', le_X12_doLock_218 en (d + 1) _ _ _ _ _ _ _ _ _ ?_, h4⟩
            rw [show wts P N l (u + 1) = wts P N l u + (if wtf P N u l = true then 1 else 0) from rfl, hf, if_pos rfl] at h1
            simp (disch := omega) only [n_in, gdT, n_cl, nm_eq, mM_ws, nI_1]
            exact h1
          have hfin : ∀ zz : Int32, (∃ s' : fI, L_X12_doLock_218 en (d + 1) (nI (100 * vv + i)) (nI ch) (nI l) (nI (wts P N l u)) (nI u) (nI u) zz (mM σ F s1 y g D) = some (none, mM σ F s' y g D) ∧ MR w (wak P N l (if k = 8 then some ch else none) nt) s') → (zz = if k = 9 then 3 else if ¬ wts P N l u = ch then 2 else 3) → ∃ s' : fI, L_X12_doLock_150 en (d + 1) (nI (100 * vv + i)) (nI ch) (nI l) (nI (wts P N l u)) (nI u) (mM σ F s1 y g D) = some (none, mM σ F s' y g D) ∧ MR w (wak P N l (if k = 8 then some ch else none) nt) s' := by
            intro zz hz he
            obtain ⟨s', h1, h4⟩ := hz
            refine ⟨s', le_X12_doLock_150 en (d + 1) _ _ _ _ _ _ _ ?_, h4⟩
            simp (disch := omega) only [mM_F, hF.2.2.1, n_LE, if_neg, n_al, n_in, gdT, n_cl, mM_s, est, h2, not_true, if_false, hml, bI_some, o166, hB i2 hin, h3, o164, hB0, Nat.zero_add, n_eq, n_EQ]
            by_cases k9 : k = 9
            · rw [if_pos k9] at he ⊢
              rw [he] at h1; exact h1
            · rw [if_neg k9] at he ⊢
              by_cases hw : wts P N l u = ch
              · rw [if_neg (not_not_intro hw)] at he ⊢
                rw [he] at h1; exact h1
              · rw [if_pos hw] at he ⊢
                rw [he] at h1; exact h1
          refine hfin _ (hstep _ rfl) ?_
          rcases hk with rfl | rfl
          · rw [if_pos rfl, if_neg (by decide : ¬ (8 : Nat) = 9)]
            by_cases hw : wts P N l u = ch
            · rw [if_neg (not_not_intro hw), if_pos (Or.inr (by rw [hw]))]
            · rw [if_pos hw, if_neg]
              rintro (z | z)
              · cases z
              · exact hw (Option.some.inj z).symm
          · rfl
        · obtain ⟨s', h1, h4⟩ := skip (by
            unfold wtf
            rw [hi2, n_clp (by omega)]
            exact decide_eq_false fun z => h3 z.2)
          refine ⟨s', le_X12_doLock_150 en (d + 1) _ _ _ _ _ _ _ ?_, h4⟩
          simp (disch := omega) only [mM_F, hF.2.2.1, n_LE, if_neg, n_al, n_in, gdT, n_cl, mM_s, est, h2, not_true, if_false, hml, bI_some, o166, hB i2 hin, h3, not_false_eq_true, if_true, nI_1]
          first
            | exact h1
            | (split <;> exact h1)
      · obtain ⟨s', h1, h4⟩ := skip (by
          unfold wtf
          exact decide_eq_false fun z => h2 z.1)
        refine ⟨s', le_X12_doLock_150 en (d + 1) _ _ _ _ _ _ _ ?_, h4⟩
        simp (disch := omega) only [mM_F, hF.2.2.1, n_LE, if_neg, n_al, n_in, gdT, n_cl, mM_s, nI_1]
        rw [Nat.zero_add, if_pos (by rw [est]; exact h2)]
        exact h1
  exact go nt 0 s (by omega) hR
end ML5
