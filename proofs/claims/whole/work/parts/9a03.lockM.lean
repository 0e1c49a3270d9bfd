/-! THE MODEL'S MACHINE: locks. -/
section ML6
variable {en : pN} {d t i n top k K w e a c l u ch nc nl nt vv j m p : Nat} {v x z : Int32} {q : Nat} {σ : qS} {F s y g N : fI} {P : Nat → fI} {D : Int64}
theorem m_lock (hk5 : 5 ≤ k) (hk9 : k ≤ 9) (hB0 : σ.1 164 (100 * vv + i) = nI k) (hB1 : σ.1 166 (100 * vv + i) = nI l) (hB : ∀ i, i < n → σ.1 166 (100 * vv + i) = P 9 i) (hF : MF F w vv nc nl nt) (hR : MR w N s) (hw2 : w ≤ 2) (hv : vv ≤ 3) (hnl : nl ≤ 4) (hnt : nt ≤ 4) (hn100 : n ≤ 100) (hi : i < 100) (ht : t < 4) (hl : l < 4) (hch : ch < 100) (hst : N t = 1) (hs : ∀ u, u < nt → N u = 2 → ∃ i, N (4 + u) = nI i ∧ i < n) (Sk : SVk nl nt N) (hready : k = 5 → N (40 + l) = -1 ∨ N (40 + l) = nI t) :
    ∃ (F' s' y' : fI), qev en (d + 5) 327 [.ref 151, .int (nI t), .int (nI (100 * vv + i)), .int (nI ch)] (mM σ F s y g D) = some (none, mM σ F' s' y' g D) ∧ FE F F' ∧ F' 62 = F 62 ∧ F' 68 = F 68 ∧ F' 70 = F 70 ∧ F' 71 = F 71 ∧ F' 73 = (if k = 5 ∧ N (40 + l) ≠ nI t then oB N t l nl (F 73) else F 73) ∧ resM w N t (lckS P N t l ch k nt) F F' s' y y' := by
  have o164 : ∀ (F s : fI), (mM σ F s y g D).1 164 = σ.1 164 := fun F s => mM_o (by decide) (by decide) (by decide) (by decide)
  have o166 : ∀ (F s : fI), (mM σ F s y g D).1 166 = σ.1 166 := fun F s => mM_o (by decide) (by decide) (by decide) (by decide)
  have eo := mr_ow hR hl
  have et := mr_t1 hR hl
  have hold : N (40 + l) = -1 ∧ N (44 + l) = 0 ∨ ∃ tt q, tt < 4 ∧ N (40 + l) = nI tt ∧ N (44 + l) = nI q ∧ 1 ≤ q ∧ q ≤ 9 := by
    rcases Sk l hl with z | ⟨-, tt, q, a1, a2, a3, a4, a5⟩
    · exact Or.inl z
    · exact Or.inr ⟨tt, q, by omega, a2, a3, a4, a5⟩
  have eh : (s (36 + l) = nI t + 1) ↔ N (40 + l) = nI t := by
    rw [eo]
    refine ⟨fun z => ?_, fun z => by rw [z]⟩
    rcases hold with ⟨q, -⟩ | ⟨tt, q, h1, h2, -⟩
    · rw [q] at z
      exfalso
      have : nI t + 1 = 0 := z.symm
      rw [nI_1, n_eq (by decide) (by omega)] at this
      exact absurd this (by omega)
    · rw [h2, nI_1, nI_1, n_EQ (by omega) (by omega)] at z
      rw [h2, show tt = t by omega]
  -- wrong
  have wr : ∀ r : Int32, r ≠ 0 → ∃ (s' : fI), qev en (d + 4) 317 [.ref 151, .int (nI t), .int r] (mM σ F s y g D) = some (none, mM σ (upd F 69 21) s' (upd y t r) g D) ∧ MR w (wrg N t r) s' := fun r _ => m_wrong (d := d + 3) hR ht
  have hO : ∀ k, k < nl → N (40 + k) = -1 ∨ ∃ j, N (40 + k) = nI j ∧ j < 4 := by
    intro k hk
    rcases Sk k (by omega) with ⟨z, -⟩ | ⟨-, tt, q, a1, a2, -⟩
    · exact Or.inl z
    · exact Or.inr ⟨tt, a2, by omega⟩
  -- where it is known whether the thread has the lock
  have main : ∀ has : Bool, (has = true ↔ N (40 + l) = nI t) → ∃ (F' s' y' : fI), L_X12_doLock_29 en (d + 4) (nI t) (nI (100 * vv + i)) (nI ch) (nI l) (bt has) (mM σ F s y g D) = some (none, mM σ F' s' y' g D) ∧ FE F F' ∧ F' 62 = F 62 ∧ F' 68 = F 68 ∧ F' 70 = F 70 ∧ F' 71 = F 71 ∧ F' 73 = (if k = 5 ∧ N (40 + l) ≠ nI t then oB N t l nl (F 73) else F 73) ∧ resM w N t (lckS P N t l ch k nt) F F' s' y y' := by
    intro has hhas
    by_cases k5 : k = 5
    · subst k5
      unfold lckS
      rw [if_pos rfl]
      -- the lock's view is learned
      have f98 : ∀ (M M' : fI) (F1 : fI), FE F F1 → MR w M M' → ∃ s', L_X12_doLock_98 en (d + 4) (nI t) (nI l) (mM σ F1 M' y g D) = some (none, mM σ F1 s' y g D) ∧ MR w (lrn M t (M (228 + l))) s' := by
        intro M M' F1 hFE hM
        obtain ⟨s', h1, h2⟩ := m_jv (en := en) (d := d + 1) (σ := σ) (F := F1) (y := y) (g := g) (D := D) (a := 208 + l) (hF.fe hFE) hM hw2 ht (by omega) (by omega)
        refine ⟨s', le_X12_doLock_98 en (d + 4) _ _ _ _ ?_, ?_⟩
        · simp (disch := omega) only [n_al]
          have h1 : qev en (d + 4) 319 [.ref 151, .int (nI t), .int (nI (208 + l))] (mM σ F1 M' y g D) = _ := h1
          rw [h1, bV_some]
        · rw [show 208 + l + 20 = 228 + l by omega] at h2; exact h2
      cases has
      · have hn : N (40 + l) ≠ nI t := fun z => absurd (hhas.mpr z) (by decide)
        have hm1 : N (40 + l) = -1 := (hready rfl).resolve_right hn
        have h44 : N (44 + l) = 0 := by
          rcases hold with ⟨-, z⟩ | ⟨tt, q, h1, h2, -⟩
          · exact z
          · rw [hm1] at h2; exact absurd h2.symm (by rw [n_m1 (by omega)]; exact fun z => z)
        obtain ⟨s1, h1, h2⟩ := m_takeL (en := en) (d := d + 3) (σ := σ) (F := F) (y := y) (g := g) (D := D) (x := 1) hF hR hnl ht hl hO
        obtain ⟨s2, h3, h4⟩ := f98 _ s1 _ (FE.up (k := 73) (by decide) (by decide)) h2
        refine ⟨upd F 73 (oB N t l nl (F 73)), s2, y, le_X12_doLock_29 en (d + 4) _ _ _ _ _ _ _ ?_, FE.up (by decide) (by decide), pk_un (by decide), pk_un (by decide), pk_un (by decide), pk_un (by decide), ?_, ?_⟩
        · simp (disch := omega) only [n_in, gdT, n_cl, o164, hB0, n_eq, not_true, if_false, bt_f, if_true]
          refine le_X12_doLock_68 en (d + 4) _ _ _ _ _ ?_
          rw [if_pos rfl, h1, bV_some]
          exact h3
        · rw [pk_us, if_pos ⟨rfl, hn⟩]
        · rw [if_neg (by rw [h44]; decide)]
          show if _ then _ else _
          rw [if_neg (not_not_intro rfl)]
          refine ⟨pk_un (by decide), ?_, rfl⟩
          rw [pk_un (by omega), pk_un (by omega)] at h4
          rw [h44]
          exact h4
      · have hn : N (40 + l) = nI t := hhas.mp rfl
        obtain ⟨q, hq, q1, q9⟩ : ∃ q, N (44 + l) = nI q ∧ 1 ≤ q ∧ q ≤ 9 := by
          rcases hold with ⟨z, -⟩ | ⟨tt, q, h1, h2, h3, h4, h5⟩
          · rw [hn] at z; exact absurd z (by rw [n_m1 (by omega)]; exact fun z => z)
          · exact ⟨q, h3, h4, h5⟩
        have n1 : ¬ ((1 : Int32) = 0) := by decide
        by_cases hq9 : q = 9
        · obtain ⟨s', h1, h2⟩ := wr 5 (by decide)
          refine ⟨upd F 69 21, s', upd y t 5, le_X12_doLock_29 en (d + 4) _ _ _ _ _ _ _ ?_, FE.up (by decide) (by decide), pk_un (by decide), pk_un (by decide), pk_un (by decide), pk_un (by decide), ?_, ?_⟩
          · simp (disch := omega) only [n_in, gdT, n_cl, o164, hB0, n_eq, not_true, if_false, bt_t, n1, n_al, mM_s, et, hq, hq9, h1, bV_some]
          · rw [pk_un (by decide), if_neg (fun z => z.2 hn)]
          · rw [if_pos (by rw [hq, hq9]; decide)]
            show if _ then _ else _
            rw [if_pos (show ¬ ((5 : Int32) = 0) by decide)]
            exact ⟨pk_us, h2, rfl⟩
        · have g1 := uw_tm (j := 40 + l) (v := nI (q + 1)) hR (by omega) (by omega)
          rw [show 40 + l + 4 = 44 + l by omega] at g1
          obtain ⟨s2, h3, h4⟩ := f98 _ _ F FE.rf g1
          refine ⟨F, s2, y, le_X12_doLock_29 en (d + 4) _ _ _ _ _ _ _ ?_, FE.rf, rfl, rfl, rfl, rfl, ?_, ?_⟩
          · have h68 : L_X12_doLock_68 en (d + 4) (nI t) (nI l) 1 (mM σ F s y g D) = some (none, mM σ F s2 y g D) := by
              refine le_X12_doLock_68 en (d + 4) _ _ _ _ _ ?_
              simp (disch := omega) only [n1, if_false, n_al, n_in, gdT, n_cl, mM_s, et, hq, nm_eq, mM_ws, n_ar]
              exact h3
            simp (disch := omega) only [n_in, gdT, n_cl, o164, hB0, n_eq, not_true, if_false, bt_t, n1, n_al, mM_s, et, hq, hq9, not_false_eq_true, if_true, h68]
          · rw [if_neg (fun z => z.2 hn)]
          · have : ¬ (9 : Int32) ≤ N (44 + l) := by rw [hq, n_le (by decide) (by omega)]; omega
            rw [if_neg this]
            show if _ then _ else _
            rw [if_neg (not_not_intro rfl)]
            refine ⟨rfl, ?_, rfl⟩
            rw [pk_un (by omega)] at h4
            show MR w (lrn (upd (upd N (40 + l) (nI t)) (44 + l) (N (44 + l) + 1)) t (N (228 + l))) s2
            rw [upd_id hn, hq, nI_1]
            exact h4
    · have h73 : ∀ x : Int32, x = F 73 → x = (if k = 5 ∧ N (40 + l) ≠ nI t then oB N t l nl (F 73) else F 73) := fun x hx => by rw [if_neg (fun z => k5 z.1)]; exact hx
      unfold lckS
      rw [if_neg k5]
      cases has
      · have hn : N (40 + l) ≠ nI t := fun z => absurd (hhas.mpr z) (by decide)
        obtain ⟨s', h1, h2⟩ := wr 2 (by decide)
        refine ⟨upd F 69 21, s', upd y t 2, le_X12_doLock_29 en (d + 4) _ _ _ _ _ _ _ ?_, FE.up (by decide) (by decide), pk_un (by decide), pk_un (by decide), pk_un (by decide), pk_un (by decide), h73 _ (pk_un (by decide)), ?_⟩
        · simp (disch := omega) only [n_in, gdT, n_cl, o164, hB0, n_eq, k5, not_false_eq_true, if_true, bt_f, not_true, if_false, h1, bV_some]
        · rw [if_pos hn]
          show if _ then _ else _
          rw [if_pos (show ¬ ((2 : Int32) = 0) by decide)]
          exact ⟨pk_us, h2, rfl⟩
      · have hn : N (40 + l) = nI t := hhas.mp rfl
        have n1 : ¬ ((1 : Int32) = 0) := by decide
        rw [if_neg (not_not_intro hn)]
        obtain ⟨q, hq, q1, q9⟩ : ∃ q, N (44 + l) = nI q ∧ 1 ≤ q ∧ q ≤ 9 := by
          rcases hold with ⟨z, -⟩ | ⟨tt, q, h1, h2, h3, h4, h5⟩
          · rw [hn] at z; exact absurd z (by rw [n_m1 (by omega)]; exact fun z => z)
          · exact ⟨q, h3, h4, h5⟩
        by_cases k89 : k = 8 ∨ k = 9
        · obtain ⟨s', h1, h2⟩ := m_wak (en := en) (d := d + 3) (σ := σ) (F := F) (s := s) (y := y) (g := g) (D := D) (ch := ch) (l := l) k89 hB0 hB hF hR hv hnt hn100 hi hch hs
          refine ⟨F, s', y, le_X12_doLock_29 en (d + 4) _ _ _ _ _ _ _ ?_, FE.rf, rfl, rfl, rfl, rfl, h73 _ rfl, ?_⟩
          · rcases k89 with rfl | rfl
            · simp (disch := omega) only [n_in, gdT, n_cl, o164, hB0, n_eq, Nat.reduceEqDiff, not_false_eq_true, if_true, bt_t, n1, h1]
            · simp (disch := omega) only [n_in, gdT, n_cl, o164, hB0, n_eq, Nat.reduceEqDiff, not_false_eq_true, if_true, bt_t, n1, not_true, if_false, h1]
          · rw [if_neg (show ¬ k = 6 by omega), if_neg (show ¬ k = 7 by omega)]
            show if _ then _ else _
            rw [if_neg (not_not_intro rfl)]
            exact ⟨rfl, h2, rfl⟩
        · have k67 : k = 6 ∨ k = 7 := by omega
          -- what comes behind the view
          have f308 : ∀ (M M' : fI) (r : Nat), MR w M M' → M (44 + l) = nI (r + 1) → M (40 + l) = nI t → r < 100 → ∃ s' : fI, L_X12_doLock_308 en (d + 4) (nI l) (mM σ F M' y g D) = some (none, mM σ F s' y g D) ∧ MR w (if r = 0 then upd (upd M (44 + l) 0) (40 + l) (-1) else upd M (44 + l) (nI r)) s' := by
            intro M M' r hM h44 h40 hr
            have et' := mr_t1 hM hl
            have eo' := mr_ow hM hl
            have g1 := uw_tm (j := 40 + l) (v := nI r) hM (by omega) (by omega)
            rw [show 40 + l + 4 = 44 + l by omega] at g1
            have f358 : ∀ z : Int32, L_X12_doLock_358 en (d + 4) (nI (36 + l)) z (mM σ F (upd M' (40 + l) (nI r)) y g D) = some (none, mM σ F (upd (upd M' (40 + l) (nI r)) (36 + l) z) y g D) := by
              intro z
              refine le_X12_doLock_358 en (d + 4) _ _ _ _ ?_
              simp (disch := omega) only [n_in, gdT, n_cl, nm_eq, mM_ws]
            by_cases r0 : r = 0
            · have g2 := uw_ow (v := -1) g1 hl
              refine ⟨_, le_X12_doLock_308 en (d + 4) _ _ (none, mM σ F (upd (upd M' (40 + l) (nI r)) (36 + l) 0) y g D) ?_, ?_⟩
              · simp (disch := omega) only [n_al, n_in, gdT, n_cl, mM_s, et', h44, nI_pred, nm_eq, mM_ws, pk_us, n_eq, r0, not_true, if_false]
                have := f358 0
                rw [r0] at this
                exact this
              · rw [if_pos r0]
                rw [r0] at g2 ⊢
                exact g2
            · refine ⟨_, le_X12_doLock_308 en (d + 4) _ _ (none, mM σ F (upd (upd M' (40 + l) (nI r)) (36 + l) (M' (36 + l))) y g D) ?_, ?_⟩
              · have e36 : upd M' (40 + l) (nI r) (36 + l) = M' (36 + l) := pk_un (by omega)
                simp (disch := omega) only [n_al, n_in, gdT, n_cl, mM_s, et', h44, nI_pred, nm_eq, mM_ws, pk_us, n_eq, r0, not_false_eq_true, if_true, e36]
                exact f358 _
              · rw [if_neg r0, upd_id (pk_un (by omega))]
                exact g1
          -- the lock's view is the thread's then
          have hview : ∃ s1 : fI, (∀ (r : qR), L_X12_doLock_258 en (d + 4) (nI t) (nI (100 * vv + i)) (nI l) (mM σ F s1 y g D) = some r → L_X12_doLock_29 en (d + 4) (nI t) (nI (100 * vv + i)) (nI ch) (nI l) 1 (mM σ F s y g D) = some r) ∧ MR w (upd N (228 + l) (N (224 + t))) s1 := by
            by_cases h : w = 2
            · subst h
              have g1 := uw_v (j := 208 + l) (v := N (224 + t)) hR (by omega) (by omega)
              rw [show 208 + l + 20 = 228 + l by omega] at g1
              have ev : s (204 + t) = N (224 + t) := by rw [mr_v hR (by omega) (by omega), show 204 + t + 20 = 224 + t by omega]
              refine ⟨_, fun r hr => le_X12_doLock_29 en (d + 4) _ _ _ _ _ _ _ ?_, g1⟩
              have k8 : ¬ k = 8 := by omega
              have k9 : ¬ k = 9 := by omega
              simp (disch := omega) only [n_in, gdT, n_cl, o164, hB0, n_eq, k5, k8, k9, not_false_eq_true, if_true, n1, if_false, mM_F, hF.2.2.2.1, not_true, n_al, mM_s, ev, nm_eq, mM_ws]
              exact hr
            · refine ⟨s, fun r hr => le_X12_doLock_29 en (d + 4) _ _ _ _ _ _ _ ?_, uw_nv hR h hw2 (by omega)⟩
              have k8 : ¬ k = 8 := by omega
              have k9 : ¬ k = 9 := by omega
              simp (disch := omega) only [n_in, gdT, n_cl, o164, hB0, n_eq, k5, k8, k9, not_false_eq_true, if_true, n1, if_false, mM_F, hF.2.2.2.1, h]
              exact hr
          obtain ⟨s1, hgo, hM1⟩ := hview
          have a44 : upd N (228 + l) (N (224 + t)) (44 + l) = nI q := (pk_un (by omega)).trans hq
          have a40 : upd N (228 + l) (N (224 + t)) (40 + l) = nI t := (pk_un (by omega)).trans hn
          rcases k67 with k6 | k7
          · obtain ⟨s', h1, h2⟩ := f308 _ s1 (q - 1) hM1 (by rw [a44, show q - 1 + 1 = q by omega]) a40 (by omega)
            refine ⟨F, s', y, hgo _ (le_X12_doLock_258 en (d + 4) _ _ _ _ _ ?_), FE.rf, rfl, rfl, rfl, rfl, h73 _ rfl, ?_⟩
            · have k7 : ¬ k = 7 := by omega
              simp (disch := omega) only [n_in, gdT, n_cl, o164, hB0, n_eq, k7, not_false_eq_true, if_true]
              exact h1
            · rw [if_pos k6]
              show if _ then _ else _
              rw [if_neg (not_not_intro rfl)]
              refine ⟨rfl, ?_, rfl⟩
              show MR w (lev (upd N (44 + l) (N (44 + l) - 1)) t l) s'
              obtain ⟨q', rfl⟩ : ∃ q', q = q' + 1 := ⟨q - 1, by omega⟩
              rw [hq, nI_pred]
              rw [Nat.add_sub_cancel] at h2
              unfold lev
              rw [pk_us, pk_un (show 224 + t ≠ 44 + l by omega)]
              by_cases q0 : q' = 0
              · subst q0
                rw [if_pos rfl] at h2
                rw [if_pos (show nI 0 = 0 from rfl), upd_cm (show 44 + l ≠ 228 + l by omega)]
                exact h2
              · rw [if_neg q0] at h2
                rw [if_neg (by rw [n_eq (by decide) (by omega)]; exact q0), upd_cm (show 44 + l ≠ 228 + l by omega)]
                exact h2
          · have e40 := mr_t1 hM1 hl
            rw [a44] at e40
            have g1 := uw_had (v := nI q) hM1 ht (by rw [pk_un (by omega), hst]; decide)
            have g2 := uw_st (v := 2) g1 ht (by decide) (by rw [pk_un (by omega), pk_un (by omega), hst]; decide)
            have g3 := uw_tm (j := 40 + l) (v := 1) g2 (by omega) (by omega)
            rw [show 40 + l + 4 = 44 + l by omega] at g3
            obtain ⟨s', h1, h2⟩ := f308 _ _ 0 g3 pk_us (by rw [pk_un (by omega), pk_un (by omega), pk_un (by omega), a40]) (by decide)
            refine ⟨F, s', y, hgo _ (le_X12_doLock_258 en (d + 4) _ _ _ _ _ ?_), FE.rf, rfl, rfl, rfl, rfl, h73 _ rfl, ?_⟩
            · simp (disch := omega) only [n_in, gdT, n_cl, o164, hB0, n_eq, k7, not_true, if_false, n_al, mM_s, e40, nm_eq, mM_ws, Nat.zero_add]
              exact h1
            · rw [if_neg (show ¬ k = 6 by omega), if_pos k7]
              show if _ then _ else _
              rw [if_neg (not_not_intro rfl)]
              refine ⟨rfl, ?_, rfl⟩
              show MR w (lev (upd (upd (upd N (12 + t) (N (44 + l))) (44 + l) 0) t 2) t l) s'
              unfold lev
              have e1 : upd (upd (upd N (12 + t) (N (44 + l))) (44 + l) 0) t 2 (44 + l) = 0 := by rw [pk_un (by omega), pk_us]
              have e2 : upd (upd (upd N (12 + t) (N (44 + l))) (44 + l) 0) t 2 (224 + t) = N (224 + t) := by rw [pk_un (by omega), pk_un (by omega), pk_un (by omega)]
              rw [if_pos e1, e2, hq]
              rw [if_pos rfl] at h2
              have e3 : upd (upd (upd (upd (upd (upd N (228 + l) (N (224 + t))) (12 + t) (nI q)) t 2) (44 + l) 1) (44 + l) 0) (40 + l) (-1) = upd (upd (upd (upd (upd N (12 + t) (nI q)) (44 + l) 0) t 2) (228 + l) (N (224 + t))) (40 + l) (-1) := by
                rw [pk_uu, upd_cm (show t ≠ 44 + l by omega), upd_cm (show 228 + l ≠ 12 + t by omega), upd_cm (show 228 + l ≠ 44 + l by omega), upd_cm (show 228 + l ≠ t by omega)]
              rw [e3] at h2
              exact h2
  by_cases hh : N (40 + l) = nI t
  · obtain ⟨F', s', y', h1, h2⟩ := main true ⟨fun _ => hh, fun _ => rfl⟩
    refine ⟨F', s', y', le_X12_doLock en (d + 4) _ _ _ _ _ ?_, h2⟩
    have e1 := eh.mpr hh
    simp (disch := omega) only [n_in, gdT, n_cl, o166, hB1, nm_eq, n_al, mM_s, e1, not_true, if_false]
    exact h1
  · obtain ⟨F', s', y', h1, h2⟩ := main false ⟨fun z => (by cases z), fun z => absurd z hh⟩
    refine ⟨F', s', y', le_X12_doLock en (d + 4) _ _ _ _ _ ?_, h2⟩
    have e1 : ¬ s (36 + l) = nI t + 1 := fun z => hh (eh.mp z)
    simp (disch := omega) only [n_in, gdT, n_cl, o166, hB1, nm_eq, n_al, mM_s, e1, not_false_eq_true, if_true]
    exact h1
end ML6
