/-! THE MODEL'S MACHINE: what a line does. -/
section ML3
variable {en : pN} {d t i n top k K w e a c l u ch nc nl nt vv j m p : Nat} {v x z : Int32} {q : Nat} {σ : qS} {F s y g N : fI} {P : Nat → fI} {D : Int64}
theorem m_ldL (hF : MF F w vv nc nl nt) (hR : MR w N s) (hw2 : w ≤ 2) (ht : t < 4) (hc : c < 8) (hq : N (56 + t) = nI q) (hq3 : q ≤ 3) (hw : w ≠ 1 → q = 0) : L_X12_loaded_62 en d (nI t) (nI c) (N (48 + c)) (nI 0) (mM σ F s y g D) = some (some (.int (ldq N t c q)), mM σ F s y g D) := by
  by_cases h : w = 1
  · subst h
    have e := mr_bu hR ht
    have go : ∀ (k j : Nat), j + k = 3 → L_X12_loaded_62 en d (nI t) (nI c) (ldq N t c (min j q)) (nI j) (mM σ F s y g D) = some (some (.int (ldq N t c q)), mM σ F s y g D) := by
      intro k
      induction k with
      | zero =>
        intro j hj
        obtain rfl : j = 3 := by omega
        refine le_X12_loaded_62 en d _ _ _ _ _ _ ?_
        rw [if_pos (show (3 : Int32) ≤ nI 3 by decide), Nat.min_eq_right hq3]
      | succ k ih =>
        intro j hj
        have h1 := ih (j + 1) (by omega)
        have bc := mr_bc (j := 3 * t + j) hR (by omega)
        have bv := mr_bv (j := 3 * t + j) hR (by omega)
        rw [← Nat.add_assoc, ← Nat.add_assoc] at bc bv
        refine le_X12_loaded_62 en d _ _ _ _ _ _ ?_
        simp (disch := omega) only [n_le, if_neg, mM_F, hF.2.2.2.1, n_eq, not_true, if_false, n_al, n_in, gdT, n_cl, mM_s, e, hq, n_LE, n_ar, n_ml, nI_add, bc, bv, nm_eq]
        by_cases hjq : q ≤ j
        · rw [if_pos hjq]
          rw [show min (j + 1) q = min j q by omega] at h1
          exact h1
        · rw [if_neg hjq]
          rw [show min (j + 1) q = j + 1 by omega, show ldq N t c (j + 1) = if N (60 + t * 3 + j) &&& (7 : Int32) = nI c then N (60 + t * 3 + j) >>> ((3 : Int32) &&& 31) else ldq N t c j from rfl] at h1
          rw [show min j q = j by omega, show 60 + 3 * t + j = 60 + t * 3 + j by omega]
          by_cases hm : N (60 + t * 3 + j) &&& (7 : Int32) = nI c
          · rw [if_neg (not_not_intro hm)]
            rw [if_pos hm] at h1
            exact h1
          · rw [if_pos hm]
            rw [if_neg hm] at h1
            exact h1
    have := go 3 0 rfl
    rw [Nat.zero_min] at this
    exact this
  · obtain rfl := hw h
    refine le_X12_loaded_62 en d _ _ _ _ _ _ ?_
    rw [if_neg (show ¬ (3 : Int32) ≤ nI 0 by decide), mM_F, hF.2.2.2.1, if_pos (by rw [n_eq (by omega) (by omega)]; exact h)]
    rfl
theorem m_loaded (hB : σ.1 155 c = bt (vol P c)) (hF : MF F w vv nc nl nt) (hR : MR w N s) (hw2 : w ≤ 2) (ht : t < 4) (hc : c < 8) (hq : N (56 + t) = nI q) (hq3 : q ≤ 3) (hw : w ≠ 1 → q = 0) (ha : w = 2 → vol P c = false → nb (N (224 + t)) c + ch < 9) : qev en (d + 2) 321 [.ref 151, .int (nI t), .int (nI c), .int (nI ch)] (mM σ F s y g D) = some (some (.int (ldb w P N t c ch)), mM σ F s y g D) := by
  have o : (mM σ F s y g D).1 155 = σ.1 155 := mM_o (by decide) (by decide) (by decide) (by decide)
  have em := mr_me hR hc
  have hl := m_ldL (en := en) (d := d + 1) (σ := σ) (y := y) (g := g) (D := D) hF hR hw2 ht hc hq hq3 hw
  have hl : L_X12_loaded_62 en (d + 1) (nI t) (nI c) (N (48 + c)) 0 (mM σ F s y g D) = _ := hl
  refine le_X12_loaded en (d + 1) _ _ _ _ _ ?_
  unfold ldb clp
  rw [hq, n_cl (by omega)]
  simp (disch := omega) only [n_al, n_in, gdT, n_cl, mM_s, em, nm_eq, mM_F, hF.2.2.2.1, n_eq, o, hB, bt_0]
  by_cases h : w = 2
  · subst h
    simp only [not_true, if_false, true_and]
    cases hv : vol P c
    · have hnb := ha rfl hv
      have ev : s (204 + t) = N (224 + t) := by rw [mr_v hR (by omega) (by omega), show 204 + t + 20 = 224 + t by omega]
      have ew : s (60 + 9 * c + nb (N (224 + t)) c + ch) = N (80 + c * 9 + nb (N (224 + t)) c + ch) := by rw [mr_v hR (by omega) (by omega), show 60 + 9 * c + nb (N (224 + t)) c + ch + 20 = 80 + c * 9 + nb (N (224 + t)) c + ch by omega]
      simp (disch := omega) only [not_true, if_false, if_true, ev, m_view hc, bI_some, n_ml, n_al, nI_add, n_in, gdT, n_cl, mM_s, ew]
      refine le_X12_loaded_62 en (d + 1) _ _ _ _ _ _ ?_
      rw [if_neg (by decide), mM_F, hF.2.2.2.1, if_pos (by decide)]
    · simp only [Bool.true_eq_false, not_false_eq_true, if_true, if_false, hl]
  · simp only [h, not_false_eq_true, if_true, false_and, if_false, hl]
theorem m_wrong (hR : MR w N s) (ht : t < 4) : ∃ s' : fI, qev en (d + 1) 317 [.ref 151, .int (nI t), .int x] (mM σ F s y g D) = some (none, mM σ (upd F 69 21) s' (upd y t x) g D) ∧ MR w (wrg N t x) s' := by
  refine ⟨upd (upd (upd s t 5) (4 + t) 0) (8 + t) x, le_X12_goWrong en d _ _ _ _ ?_, uw_wr hR ht⟩
  simp (disch := omega) only [n_al, n_in, gdT, n_cl, nm_eq, mM_ws, mM_wy, mM_wF, Nat.zero_add]
theorem m_takeL (hF : MF F w vv nc nl nt) (hR : MR w N s) (hnl : nl ≤ 4) (ht : t < 4) (hl : l < 4) (hO : ∀ k, k < nl → N (40 + k) = -1 ∨ ∃ j, N (40 + k) = nI j ∧ j < 4) : ∃ s' : fI, qev en (d + 1) 318 [.ref 151, .int (nI t), .int (nI l), .int x] (mM σ F s y g D) = some (none, mM σ (upd F 73 (oB N t l nl (F 73))) s' y g D) ∧ MR w (upd (upd N (40 + l) (nI t)) (44 + l) x) s' := by
  refine ⟨upd (upd s (36 + l) (nI t + 1)) (40 + l) x, le_X12_takeLock en d _ _ _ _ _ ?_, ?_⟩
  · have go : ∀ (k j : Nat), j + k = nl → L_X12_takeLock_3 en d (nI t) (nI l) x (nI j) (mM σ (upd F 73 (oB N t l j (F 73))) s y g D) = some (none, mM σ (upd F 73 (oB N t l nl (F 73))) (upd (upd s (36 + l) (nI t + 1)) (40 + l) x) y g D) := by
      intro k
      induction k with
      | zero =>
        intro j hj
        obtain rfl : j = nl := by omega
        refine le_X12_takeLock_3 en d _ _ _ _ _ _ ?_
        have e16 : (upd F 73 (oB N t l j (F 73))) 16 = nI j := (pk_un (by decide)).trans hF.2.1
        simp (disch := omega) only [mM_F, e16, n_LE, if_pos, n_al, n_in, gdT, n_cl, nm_eq, mM_ws]
      | succ k ih =>
        intro j hj
        have h1 := ih (j + 1) (by omega)
        rw [show oB N t l (j + 1) (F 73) = if j ≠ l ∧ N (40 + j) = nI t then oB N t l j (F 73) ||| ((1 : Int32) <<< (nI (4 * j + l) &&& 31)) else oB N t l j (F 73) ||| 0 from rfl] at h1
        have e16 : (upd F 73 (oB N t l j (F 73))) 16 = nI nl := (pk_un (by decide)).trans hF.2.1
        have eo := mr_ow hR (show j < 4 by omega)
        have f51 : ∀ z : Int32, L_X12_takeLock_3 en d (nI t) (nI l) x (nI (j + 1)) (mM σ (upd F 73 (oB N t l j (F 73) ||| z)) s y g D) = some (none, mM σ (upd F 73 (oB N t l nl (F 73))) (upd (upd s (36 + l) (nI t + 1)) (40 + l) x) y g D) → L_X12_takeLock_51 en d (nI t) (nI l) x (nI j) (oB N t l j (F 73)) z (mM σ (upd F 73 (oB N t l j (F 73))) s y g D) = some (none, mM σ (upd F 73 (oB N t l nl (F 73))) (upd (upd s (36 + l) (nI t + 1)) (40 + l) x) y g D) := by
          intro z hz
          refine le_X12_takeLock_51 en d _ _ _ _ _ _ _ _ ?_
          simp only [nm_eq, mM_wF, pk_uu, nI_1 j]
          exact hz
        refine le_X12_takeLock_3 en d _ _ _ _ _ _ ?_
        simp (disch := omega) only [mM_F, e16, n_LE, if_neg, n_EQ, pk_us, n_al, n_in, gdT, n_cl, mM_s, eo, n_ml, nI_add]
        by_cases hjl : j = l
        · rw [if_pos hjl]
          rw [if_neg (fun z => z.1 hjl)] at h1
          exact f51 _ h1
        · rw [if_neg hjl]
          have ee : (N (40 + j) + 1 = nI t + 1) ↔ N (40 + j) = nI t := ⟨fun z => by
            rcases hO j (by omega) with q | ⟨i, q, hi⟩
            · rw [q] at z
              exfalso
              have : nI t + 1 = 0 := z.symm
              rw [nI_1, n_eq (by decide) (by omega)] at this
              exact absurd this (by omega)
            · rw [q, nI_1, nI_1, n_EQ (by omega) (by omega)] at z
              rw [q, show i = t by omega], fun z => by rw [z]⟩
          by_cases hz : N (40 + j) = nI t
          · rw [if_neg (not_not_intro (ee.mpr hz))]
            rw [if_pos ⟨hjl, hz⟩] at h1
            exact f51 _ h1
          · rw [if_pos (fun q => hz (ee.mp q))]
            rw [if_neg (fun z => hz z.2)] at h1
            exact f51 _ h1
    have h0 := go nl 0 (by omega)
    rw [show oB N t l 0 (F 73) = F 73 from rfl, upd_id rfl] at h0
    exact h0
  · have g1 := uw_ow (v := nI t) hR hl
    have g2 := uw_tm (j := 40 + l) (v := x) g1 (by omega) (by omega)
    rw [show 40 + l + 4 = 44 + l by omega] at g2
    exact g2
theorem m_begin (hB : σ.1 181 (4 * vv + t) = x) (hx : x = -2 ∨ ∃ j, x = nI j ∧ j < 100) (hF : MF F w vv nc nl nt) (hR : MR w N s) (hv : vv ≤ 3) (ht : t < 4) (h0 : N t = 0) : ∃ s' : fI, qev en (d + 2) 301 [.ref 151, .int (nI t)] (mM σ F s y g D) = some (none, mM σ F s' y g D) ∧ MR w (gto N t (uv x)) s' := by
  have o : (mM σ F (upd s t 1) y g D).1 181 = σ.1 181 := mM_o (by decide) (by decide) (by decide) (by decide)
  have g1 := uw_st (v := 1) hR ht (by decide) (by rw [h0]; decide)
  obtain ⟨s', h1, h2⟩ := m_goTo (en := en) (d := d) (σ := σ) (F := F) (y := y) (g := g) (D := D) g1 ht pk_us hx
  refine ⟨s', le_X12_beginThread en (d + 1) _ _ _ ?_, ?_⟩
  · simp (disch := omega) only [n_al, n_in, gdT, n_cl, nm_eq, mM_ws, Nat.zero_add, mM_F, hF.2.2.2.2, n_ml, nI_add, o, hB, h1, bV_some]
  · have : gto (upd N t 1) t (uv x) = gto N t (uv x) := by
      unfold gto
      rw [upd_cm (show t ≠ 4 + t by omega), pk_uu]
    rw [this] at h2
    exact h2
end ML3
