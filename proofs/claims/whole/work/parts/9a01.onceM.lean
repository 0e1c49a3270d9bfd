/-! THE MODEL'S MACHINE: waiting ones, cas and add, start, locks. -/
section ML4
variable {en : pN} {d t i n top k K w e a c l u ch nc nl nt vv j m p : Nat} {v x z : Int32} {q : Nat} {σ : qS} {F s y g N : fI} {P : Nat → fI} {D : Int64}
theorem m_wts (hB : ∀ i, i < n → σ.1 166 (100 * vv + i) = P 9 i) (hF : MF F w vv nc nl nt) (hR : MR w N s) (hv : vv ≤ 3) (hnt : nt ≤ 4) (hn : n ≤ 100) (hs : ∀ u, u < nt → N u = 2 → ∃ i, N (4 + u) = nI i ∧ i < n) : qev en (d + 2) 311 [.ref 151, .int (nI l)] (mM σ F s y g D) = some (some (.int (nI (wts P N l nt))), mM σ F s y g D) := by
  have o : (mM σ F s y g D).1 166 = σ.1 166 := mM_o (by decide) (by decide) (by decide) (by decide)
  refine le_X12_waitingFor en (d + 1) _ _ _ ?_
  have go : ∀ k u : Nat, u + k = nt → L_X12_waitingFor_4 en (d + 1) (nI l) (nI (wts P N l u)) (nI u) (mM σ F s y g D) = some (some (.int (nI (wts P N l nt))), mM σ F s y g D) := by
    intro k
    induction k with
    | zero =>
      intro u hu
      obtain rfl : u = nt := by omega
      refine le_X12_waitingFor_4 en (d + 1) _ _ _ _ _ ?_
      simp (disch := omega) only [mM_F, hF.2.2.1, n_LE, if_pos]
    | succ k ih =>
      intro u hu
      have h1 := ih (u + 1) (by omega)
      rw [show wts P N l (u + 1) = wts P N l u + (if wtf P N u l = true then 1 else 0) from rfl] at h1
      have est := mr_st hR (show u < 4 by omega)
      refine le_X12_waitingFor_4 en (d + 1) _ _ _ _ _ ?_
      simp (disch := omega) only [mM_F, hF.2.2.1, n_LE, if_neg, n_al, n_in, gdT, n_cl, mM_s, est, n_ar, Nat.zero_add]
      unfold wtf at h1
      by_cases h2 : N u = 2
      · obtain ⟨i, hi, hin⟩ := hs u (by omega) h2
        rw [if_neg (not_not_intro h2), m_line (nc := nc) (nl := nl) (nt := nt) hF hR (by omega) hv hi (by omega), bI_some, gd_true (n_in (by omega) (by decide)), n_cl (by omega), o, hB i hin]
        rw [hi, n_clp (by omega)] at h1
        by_cases h3 : P 9 i = nI l
        · rw [if_neg (not_not_intro h3)]
          rw [if_pos (decide_eq_true ⟨h2, h3⟩)] at h1
          exact h1
        · rw [if_pos h3]
          rw [if_neg (by rw [decide_eq_false (fun z => h3 z.2)]; decide)] at h1
          exact h1
      · rw [if_pos h2]
        rw [if_neg (by rw [decide_eq_false (fun z => h2 z.1)]; decide)] at h1
        exact h1
  exact go nt 0 (by omega)
theorem m_atOnce (hk : kd P i = 3 ∨ kd P i = 4) (hB0 : σ.1 164 (100 * vv + i) = nI (kd P i)) (hB1 : σ.1 166 (100 * vv + i) = nI c) (hB2 : σ.1 167 (100 * vv + i) = P 10 i) (hF : MF F w vv nc nl nt) (hR : MR w N s) (hw2 : w ≤ 2) (hv : vv ≤ 3) (hi : i < 100) (ht : t < 4) (hc : c < 8) (hl : P 10 i = -2 ∨ ∃ k, P 10 i = nI k ∧ k < 6)
    (hce : w = 2 → ∃ a, N (72 + c) = nI a ∧ 1 ≤ a ∧ a ≤ 9 ∧ N (48 + c) = N (80 + c * 9 + (a - 1)) ∧ (kd P i = 4 ∨ N (48 + c) = x → a < 9)) : ∃ (F' s' y' : fI), qev en (d + 4) 325 [.ref 151, .int (nI t), .int (nI (100 * vv + i)), .int x, .int z] (mM σ F s y g D) = some (none, mM σ F' s' y' g D) ∧ FE F F' ∧ F' 62 = F 62 ∧ F' 68 = F 68 ∧ F' 70 = F 70 ∧ F' 71 = F 71 ∧ F' 73 = F 73 ∧
      (if kd P i = 4 ∧ (999 < N (48 + c) + x ∨ N (48 + c) + x < -999) then F' 69 = 21 ∧ MR w (wrg N t 1) s' ∧ y' = upd y t 1 else F' = F ∧ MR w (if kd P i = 3 then swp w P N t c i x z else (add2 w P N t c i x).2) s' ∧ y' = y) := by
  have o164 : ∀ (F s y : fI), (mM σ F s y g D).1 164 = σ.1 164 := fun F s y => mM_o (by decide) (by decide) (by decide) (by decide)
  have o166 : ∀ (F s y : fI), (mM σ F s y g D).1 166 = σ.1 166 := fun F s y => mM_o (by decide) (by decide) (by decide) (by decide)
  have em := mr_me hR hc
  -- the writing half: wr whether it writes, val what; res what the local gets
  have f167 : ∀ (M M' : fI) (r : Int32), MR w M M' → ∃ s', L_X12_atOnce_167 en (d + 3) (nI t) (nI (100 * vv + i)) r (mM σ F M' y g D) = some (none, mM σ F s' y g D) ∧ MR w (setl P M t i r) s' := by
    intro M M' r hM
    obtain ⟨s', h1, h2⟩ := m_setl (en := en) (d := d + 2) (σ := σ) (F := F) (y := y) (g := g) (D := D) (v := r) hB2 hM hv hi ht hl
    refine ⟨s', le_X12_atOnce_167 en (d + 3) _ _ _ _ _ ?_, h2⟩
    rw [h1, bV_some]
  have f149 : ∀ (M M' : fI) (ad wr : Bool) (was : Int32), MR w M M' → ∃ s', L_X12_atOnce_149 en (d + 3) (nI t) (nI (100 * vv + i)) (bt ad) was (bt wr) (mM σ F M' y g D) = some (none, mM σ F s' y g D) ∧ MR w (setl P M t i (if ad then was else bt wr)) s' := by
    intro M M' ad wr was hM
    obtain ⟨s', h1, h2⟩ := f167 M M' (if ad then was else bt wr) hM
    refine ⟨s', le_X12_atOnce_149 en (d + 3) _ _ _ _ _ _ _ ?_, h2⟩
    cases ad
    · rw [if_pos (show bt false = 0 from rfl), m_truth, bI_some]; exact h1
    · rw [if_neg (by decide)]; exact h1
  have f114 : ∀ (M M' : fI) (ad : Bool) (was is : Int32), MR w M M' → (w = 2 → ∃ a, M (72 + c) = nI a ∧ a < 9) → ∃ s', L_X12_atOnce_114 en (d + 3) (nI t) (nI (100 * vv + i)) (nI c) (bt ad) was (bt true) is (mM σ F M' y g D) = some (none, mM σ F s' y g D) ∧ MR w (setl P (wrt w M t c is true) t i (if ad then was else 1)) s' := by
    intro M M' ad was is hM hM2
    by_cases h : w = 2
    · subst h
      obtain ⟨a, ha, ha9⟩ := hM2 rfl
      obtain ⟨s1, h1, h2⟩ := m_write (en := en) (d := d + 1) (σ := σ) (F := F) (y := y) (g := g) (D := D) (v := is) (tel := true) hM ht hc ha ha9
      have e : wr1 2 M t c a is true = wrt 2 M t c is true := by unfold wrt; rw [if_pos rfl, ha, n_clp (by omega)]
      rw [e] at h2
      obtain ⟨s', h3, h4⟩ := f149 _ s1 ad true was h2
      refine ⟨s', le_X12_atOnce_114 en (d + 3) _ _ _ _ _ _ _ _ _ ?_, h4⟩
      have h1 : qev en (d + 3) 308 [.ref 151, .int (nI t), .int (nI c), .int is, .int 1] (mM σ F M' y g D) = _ := h1
      simp (disch := omega) only [mM_F, hF.2.2.2.1, n_eq, not_true, if_false, h1, bV_some]
      exact h3
    · have g1 := uw_tm (j := 44 + c) (v := is) hM (by omega) (by omega)
      rw [show 44 + c + 4 = 48 + c by omega] at g1
      have e : upd M (48 + c) is = wrt w M t c is true := by unfold wrt; rw [if_neg h]
      rw [e] at g1
      obtain ⟨s', h3, h4⟩ := f149 _ _ ad true was g1
      refine ⟨s', le_X12_atOnce_114 en (d + 3) _ _ _ _ _ _ _ _ _ ?_, h4⟩
      simp (disch := omega) only [mM_F, hF.2.2.2.1, n_eq, h, not_false_eq_true, if_true, n_al, n_in, gdT, n_cl, nm_eq, mM_ws]
      exact h3
  have f75 : ∀ (ad wr : Bool), (ad = true → wr = true) → (wr = true → w = 2 → ∃ a, N (72 + c) = nI a ∧ a < 9) → ∃ s', L_X12_atOnce_75 en (d + 3) (nI t) (nI (100 * vv + i)) x z (nI c) (bt ad) (N (48 + c)) (bt wr) (mM σ F s y g D) = some (none, mM σ F s' y g D) ∧ MR w (if wr then setl P (wrt w (lal w N t c) t c (if ad then N (48 + c) + x else z) true) t i (if ad then N (48 + c) else 1) else setl P (lal w N t c) t i 0) s' := by
    intro ad wr had hwr
    have f95 : ∀ M' : fI, MR w (lal w N t c) M' → ∃ s', L_X12_atOnce_95 en (d + 3) (nI t) (nI (100 * vv + i)) x z (nI c) (bt ad) (N (48 + c)) (bt wr) (mM σ F M' y g D) = some (none, mM σ F s' y g D) ∧ MR w (if wr then setl P (wrt w (lal w N t c) t c (if ad then N (48 + c) + x else z) true) t i (if ad then N (48 + c) else 1) else setl P (lal w N t c) t i 0) s' := by
      intro M' hM'
      cases wr
      · have had : ad = false := by cases ad with
          | false => rfl
          | true => exact absurd (had rfl) (by decide)
        subst had
        obtain ⟨s', h1, h2⟩ := f149 _ M' false false (N (48 + c)) hM'
        refine ⟨s', le_X12_atOnce_95 en (d + 3) _ _ _ _ _ _ _ _ _ _ ?_, h2⟩
        rw [if_pos (by decide)]
        exact h1
      · have e72 : lal w N t c (72 + c) = N (72 + c) := by
          unfold lal
          split
          · unfold lrn vew; rw [pk_un (by omega), pk_un (by omega)]
          · rfl
        obtain ⟨s', h1, h2⟩ := f114 _ M' ad (N (48 + c)) (if ad then N (48 + c) + x else z) hM' (fun q => by rw [e72]; exact hwr rfl q)
        refine ⟨s', le_X12_atOnce_95 en (d + 3) _ _ _ _ _ _ _ _ _ _ ?_, h2⟩
        rw [if_neg (by decide)]
        cases ad
        · rw [if_pos (by decide)]; exact h1
        · rw [if_neg (by decide)]; exact h1
    by_cases h : w = 2
    · subst h
      obtain ⟨a, h72, a1, a9, hm, -⟩ := hce rfl
      obtain ⟨s1, h1, h2⟩ := m_seeT (en := en) (d := d) (σ := σ) (F := F) (y := y) (g := g) (D := D) hR ht hc h72 a1 a9
      obtain ⟨s', h3, h4⟩ := f95 s1 h2
      refine ⟨s', le_X12_atOnce_75 en (d + 3) _ _ _ _ _ _ _ _ _ _ ?_, h4⟩
      simp (disch := omega) only [mM_F, hF.2.2.2.1, n_eq, not_true, if_false, h1, bI_some, ← hm]
      exact h3
    · have e : lal w N t c = N := by unfold lal; rw [if_neg h]
      obtain ⟨s', h3, h4⟩ := f95 s (by rw [e]; exact hR)
      refine ⟨s', le_X12_atOnce_75 en (d + 3) _ _ _ _ _ _ _ _ _ _ ?_, h4⟩
      simp (disch := omega) only [mM_F, hF.2.2.2.1, n_eq, h, not_false_eq_true, if_true]
      exact h3
  rcases hk with h3 | h4
  · -- cas
    rw [h3] at hB0 hce ⊢
    by_cases hx : N (48 + c) = x
    · obtain ⟨s', h1, h2⟩ := f75 false true (fun z => by cases z) (fun _ q => by obtain ⟨a, b1, -, -, -, b2⟩ := hce q; exact ⟨a, b1, b2 (Or.inr hx)⟩)
      refine ⟨F, s', y, le_X12_atOnce en (d + 3) _ _ _ _ _ _ ?_, FE.rf, rfl, rfl, rfl, rfl, rfl, ?_⟩
      · have h23 : L_X12_atOnce_23 en (d + 3) (nI t) (nI (100 * vv + i)) x z (nI c) 0 (mM σ F s y g D) = some (none, mM σ F s' y g D) := by
          refine le_X12_atOnce_23 en (d + 3) _ _ _ _ _ _ _ _ ?_
          simp (disch := omega) only [n_al, n_in, gdT, n_cl, mM_s, em, nm_eq, if_true]
          refine le_X12_atOnce_59 en (d + 3) _ _ _ _ _ _ _ _ _ ?_
          rw [if_neg (by decide), if_neg (not_not_intro hx)]
          exact h1
        simp (disch := omega) only [n_in, gdT, n_cl, o164, o166, hB0, hB1, nm_eq, n_eq, Nat.reduceEqDiff, not_false_eq_true, if_true, h23]
      · rw [if_neg (by omega)]
        refine ⟨rfl, ?_, rfl⟩
        rw [if_pos rfl]
        unfold swp
        rw [if_pos hx]
        exact h2
    · obtain ⟨s', h1, h2⟩ := f75 false false (fun z => by cases z) (fun z => by cases z)
      refine ⟨F, s', y, le_X12_atOnce en (d + 3) _ _ _ _ _ _ ?_, FE.rf, rfl, rfl, rfl, rfl, rfl, ?_⟩
      · have h23 : L_X12_atOnce_23 en (d + 3) (nI t) (nI (100 * vv + i)) x z (nI c) 0 (mM σ F s y g D) = some (none, mM σ F s' y g D) := by
          refine le_X12_atOnce_23 en (d + 3) _ _ _ _ _ _ _ _ ?_
          simp (disch := omega) only [n_al, n_in, gdT, n_cl, mM_s, em, nm_eq, if_true]
          refine le_X12_atOnce_59 en (d + 3) _ _ _ _ _ _ _ _ _ ?_
          rw [if_neg (by decide), if_pos hx]
          exact h1
        simp (disch := omega) only [n_in, gdT, n_cl, o164, o166, hB0, hB1, nm_eq, n_eq, Nat.reduceEqDiff, not_false_eq_true, if_true, h23]
      · rw [if_neg (by omega)]
        refine ⟨rfl, ?_, rfl⟩
        rw [if_pos rfl]
        unfold swp
        rw [if_neg hx]
        exact h2
  · rw [h4] at hB0 hce ⊢
    by_cases hx : 999 < N (48 + c) + x ∨ N (48 + c) + x < -999
    · obtain ⟨s', h1, h2⟩ := m_wrong (en := en) (d := d + 2) (σ := σ) (F := F) (y := y) (g := g) (D := D) (x := 1) hR ht
      refine ⟨upd F 69 21, s', upd y t 1, le_X12_atOnce en (d + 3) _ _ _ _ _ _ ?_, FE.up (by decide) (by decide), pk_un (by decide), pk_un (by decide), pk_un (by decide), pk_un (by decide), pk_un (by decide), ?_⟩
      · have h23 : L_X12_atOnce_23 en (d + 3) (nI t) (nI (100 * vv + i)) x z (nI c) 1 (mM σ F s y g D) = some (none, mM σ (upd F 69 21) s' (upd y t 1) g D) := by
          refine le_X12_atOnce_23 en (d + 3) _ _ _ _ _ _ _ _ ?_
          have hv := m_isV (en := en) (d := d + 2) (v := N (48 + c) + x) (τ := mM σ F s y g D)
          rw [if_pos hx] at hv
          simp (disch := omega) only [n_al, n_in, gdT, n_cl, mM_s, em, nm_eq]
          rw [if_neg (by decide), hv, bI_some, if_neg (by decide), h1, bV_some]
        simp (disch := omega) only [n_in, gdT, n_cl, o164, o166, hB0, hB1, nm_eq, n_eq, not_true, if_false, h23]
      · rw [if_pos ⟨rfl, hx⟩]
        exact ⟨pk_us, h2, rfl⟩
    · obtain ⟨s', h1, h2⟩ := f75 true true (fun _ => rfl) (fun _ q => by obtain ⟨a, b1, -, -, -, b2⟩ := hce q; exact ⟨a, b1, b2 (Or.inl rfl)⟩)
      refine ⟨F, s', y, le_X12_atOnce en (d + 3) _ _ _ _ _ _ ?_, FE.rf, rfl, rfl, rfl, rfl, rfl, ?_⟩
      · have h23 : L_X12_atOnce_23 en (d + 3) (nI t) (nI (100 * vv + i)) x z (nI c) 1 (mM σ F s y g D) = some (none, mM σ F s' y g D) := by
          refine le_X12_atOnce_23 en (d + 3) _ _ _ _ _ _ _ _ ?_
          have hv := m_isV (en := en) (d := d + 2) (v := N (48 + c) + x) (τ := mM σ F s y g D)
          rw [if_neg hx] at hv
          simp (disch := omega) only [n_al, n_in, gdT, n_cl, mM_s, em, nm_eq]
          rw [if_neg (by decide), hv, bI_some, if_pos (by decide)]
          refine le_X12_atOnce_59 en (d + 3) _ _ _ _ _ _ _ _ _ ?_
          rw [if_pos (by decide)]
          exact h1
        simp (disch := omega) only [n_in, gdT, n_cl, o164, o166, hB0, hB1, nm_eq, n_eq, not_true, if_false, h23]
      · rw [if_neg (fun z => hx z.2)]
        refine ⟨rfl, ?_, rfl⟩
        rw [if_neg (by decide)]
        unfold add2
        rw [if_neg hx]
        exact h2
end ML4
