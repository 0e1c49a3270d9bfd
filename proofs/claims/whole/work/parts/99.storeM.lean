/-! THE MODEL'S MACHINE: more leaves. -/
/-- the bits of orders: lock l comes to thread t, which has others -/
def oB (N : fI) (t l : Nat) : Nat → Int32 → Int32
  | 0, x => x
  | k + 1, x => if k ≠ l ∧ N (40 + k) = nI t then oB N t l k x ||| ((1 : Int32) <<< (nI (4 * k + l) &&& 31)) else oB N t l k x ||| 0
section ML2
variable {en : pN} {d t i n top k K w e a c l u ch nc nl nt vv j : Nat} {v q x z : Int32} {σ : qS} {F s y g N : fI} {P : Nat → fI} {D : Int64}
theorem m_setlA (hB : σ.1 167 (100 * vv + i) = P 10 i) (hv : vv ≤ 3) (hi : i < 100) (hl : P 10 i = -2) : qev en (d + 1) 323 [.ref 151, .int (nI t), .int (nI (100 * vv + i)), .int v] (mM σ F s y g D) = some (none, mM σ F s y g D) := by
  have o : (mM σ F s y g D).1 167 = σ.1 167 := mM_o (by decide) (by decide) (by decide) (by decide)
  refine le_X12_setLocal en d _ _ _ _ _ ?_
  simp (disch := omega) only [n_in, gdT, o, n_cl, hB, hl, w_20, if_true]
theorem m_setlB (hB : σ.1 167 (100 * vv + i) = P 10 i) (hv : vv ≤ 3) (hi : i < 100) (ht : t < 4) (hl : P 10 i = nI k) (hk : k < 6) : qev en (d + 1) 323 [.ref 151, .int (nI t), .int (nI (100 * vv + i)), .int v] (mM σ F s y g D) = some (none, mM σ F (upd s (12 + 6 * t + k) v) y g D) := by
  have o : (mM σ F s y g D).1 167 = σ.1 167 := mM_o (by decide) (by decide) (by decide) (by decide)
  refine le_X12_setLocal en d _ _ _ _ _ ?_
  have h0 : ¬ nI k < 0 := nI_pos (by omega)
  simp (disch := omega) only [n_in, gdT, o, n_cl, hB, hl, h0, if_false, n_ml, n_al, nI_add, nm_eq, mM_ws]
theorem m_setlC (hR : MR w N s) (hi : i < 100) (ht : t < 4) (hl : P 10 i = nI k) (hk : k < 6) : MR w (setl P N t i v) (upd s (12 + 6 * t + k) v) := by
      unfold setl
      have g1 := uw_lo (j := 12 + 6 * t + k) (v := v) hR (by omega) (by omega)
      rw [hl, if_neg (nI_pos (by omega)), n_cl (by omega)]
      rw [show 12 + 6 * t + k + 4 = 16 + t * 6 + k by omega] at g1
      exact g1
theorem m_setlD (hR : MR w N s) (hl : P 10 i = -2) : MR w (setl P N t i v) s := by
  unfold setl
  rw [hl, if_pos (of_eq_true w_20)]
  exact hR
theorem m_setl (hB : σ.1 167 (100 * vv + i) = P 10 i) (hR : MR w N s) (hv : vv ≤ 3) (hi : i < 100) (ht : t < 4) (hl : P 10 i = -2 ∨ ∃ k, P 10 i = nI k ∧ k < 6) : ∃ s' : fI, qev en (d + 1) 323 [.ref 151, .int (nI t), .int (nI (100 * vv + i)), .int v] (mM σ F s y g D) = some (none, mM σ F s' y g D) ∧ MR w (setl P N t i v) s' := by
  rcases hl with hl | ⟨k, hl, hk⟩
  · exact ⟨s, m_setlA hB hv hi hl, m_setlD hR hl⟩
  · exact ⟨_, m_setlB hB hv hi ht hl hk, m_setlC hR hi ht hl hk⟩
theorem m_store (hB : σ.1 155 c = bt (vol P c)) (hF : MF F w vv nc nl nt) (hR : MR w N s) (hw2 : w ≤ 2) (ht : t < 4) (hc : c < 8) (hx : inR x) (ha : w = 2 → ∃ a, N (72 + c) = nI a ∧ a < 9) (hq : w = 1 → ∃ q, N (56 + t) = nI q ∧ q < 3) : ∃ s' : fI, qev en (d + 3) 322 [.ref 151, .int (nI t), .int (nI c), .int x] (mM σ F s y g D) = some (none, mM σ F s' y g D) ∧ MR w (sto w P N t c x) s' := by
  have o : (mM σ F s y g D).1 155 = σ.1 155 := mM_o (by decide) (by decide) (by decide) (by decide)
  have h98 : L_X12_storeNow_98 en (d + 2) (nI c) x (mM σ F s y g D) = some (none, mM σ F (upd s (44 + c) x) y g D) := by
    refine le_X12_storeNow_98 en (d + 2) _ _ _ _ ?_
    simp (disch := omega) only [n_al, n_in, gdT, n_cl, nm_eq, mM_ws]
  have hmem : MR w (upd N (48 + c) x) (upd s (44 + c) x) := by
    have g1 := uw_tm (j := 44 + c) (v := x) hR (by omega) (by omega)
    rw [show 44 + c + 4 = 48 + c by omega] at g1
    exact g1
  unfold sto
  by_cases h2 : w = 2
  · subst h2
    obtain ⟨a, ha, ha9⟩ := ha rfl
    obtain ⟨s', h1, h3⟩ := m_write (en := en) (d := d) (σ := σ) (F := F) (y := y) (g := g) (D := D) (v := x) (tel := vol P c) hR ht hc ha ha9
    refine ⟨s', le_X12_storeNow en (d + 2) _ _ _ _ _ ?_, ?_⟩
    · simp (disch := omega) only [mM_F, hF.2.2.2.1, n_eq, not_true, if_false, n_in, gdT, o, n_cl, hB, h1, bV_some]
    · rw [if_neg (fun z => absurd z.1 (by decide))]
      unfold wrt
      rw [if_pos rfl, ha, n_clp (by omega)]
      exact h3
  · by_cases h1 : w = 1
    · subst h1
      obtain ⟨q, hq, hq3⟩ := hq rfl
      by_cases hv : vol P c = true
      · refine ⟨upd s (44 + c) x, le_X12_storeNow en (d + 2) _ _ _ _ _ ?_, ?_⟩
        · simp (disch := omega) only [mM_F, hF.2.2.2.1, n_eq, h2, not_false_eq_true, if_true, not_true, if_false, n_in, gdT, o, n_cl, hB, hv, bt_0, Bool.true_eq_false, h98]
        · rw [if_neg (fun z => by rw [hv] at z; exact absurd z.2 (by decide))]
          unfold wrt
          rw [if_neg (by decide)]
          exact hmem
      · have hv : vol P c = false := by revert hv; cases vol P c <;> simp
        have e := mr_bu hR ht
        refine ⟨upd (upd (upd s (56 + 3 * t + q) (nI c)) (68 + 3 * t + q) x) (52 + t) (nI (q + 1)), le_X12_storeNow en (d + 2) _ _ _ _ _ ?_, ?_⟩
        · have e2 : upd (upd s (56 + 3 * t + q) (nI c)) (68 + 3 * t + q) x (52 + t) = nI q := by rw [pk_un (by omega), pk_un (by omega), e, hq]
          simp (disch := omega) only [mM_F, hF.2.2.2.1, n_eq, h2, not_false_eq_true, if_true, not_true, if_false, n_in, gdT, o, n_cl, hB, hv, bt_f, n_al, mM_s, e, hq, nm_eq, n_ml, nI_add, mM_ws, e2, nI_1]
        · rw [if_pos ⟨rfl, hv⟩, hq, n_clp (by omega)]
          have g1 := uw_be (j := 3 * t + q) (v := pkq x c) hR (by omega)
          rw [pkq_and hc, pkq_shr hc hx] at g1
          have g2 := uw_bu (v := nI (q + 1)) g1 ht
          rw [show 60 + (3 * t + q) = 60 + t * 3 + q by omega, show 56 + (3 * t + q) = 56 + 3 * t + q by omega, show 68 + (3 * t + q) = 68 + 3 * t + q by omega] at g2
          exact g2
    · refine ⟨upd s (44 + c) x, le_X12_storeNow en (d + 2) _ _ _ _ _ ?_, ?_⟩
      · simp (disch := omega) only [mM_F, hF.2.2.2.1, n_eq, h2, h1, not_false_eq_true, if_true, h98]
      · rw [if_neg (fun z => h1 z.1)]
        unfold wrt
        rw [if_neg h2]
        exact hmem
theorem m_flush (hR : MR 1 N s) (ht : t < 4) (hc : c < 8) (h0 : N (60 + t * 3) &&& (7 : Int32) = nI c) (h1 : N (60 + t * 3) >>> ((3 : Int32) &&& 31) = v) (hq : N (56 + t) = nI j) (hq1 : 1 ≤ j) (hq3 : j ≤ 3) : ∃ s' : fI, qev en (d + 1) 320 [.ref 151, .int (nI t)] (mM σ F s y g D) = some (none, mM σ F s' y g D) ∧ MR 1 (flu N t c v) s' := by
  have b0 := mr_bc (j := 3 * t) hR (by omega)
  have b1 := mr_bc (j := 3 * t + 1) hR (by omega)
  have b2 := mr_bc (j := 3 * t + 2) hR (by omega)
  have v0 := mr_bv (j := 3 * t) hR (by omega)
  have v1 := mr_bv (j := 3 * t + 1) hR (by omega)
  have v2 := mr_bv (j := 3 * t + 2) hR (by omega)
  have eb := mr_bu hR ht
  rw [show 60 + 3 * t = 60 + t * 3 by omega, h0] at b0
  rw [show 60 + 3 * t = 60 + t * 3 by omega, h1] at v0
  rw [hq] at eb
  generalize hN1 : N (60 + (3 * t + 1)) = n1 at b1 v1
  generalize hN2 : N (60 + (3 * t + 2)) = n2 at b2 v2
  refine ⟨upd (upd (upd (upd (upd (upd (upd (upd s (44 + c) v) (56 + 3 * t) (n1 &&& (7 : Int32))) (68 + 3 * t) (n1 >>> ((3 : Int32) &&& 31))) (56 + (3 * t + 1)) (n2 &&& (7 : Int32))) (68 + (3 * t + 1)) (n2 >>> ((3 : Int32) &&& 31))) (56 + (3 * t + 2)) 0) (68 + (3 * t + 2)) 0) (52 + t) (nI (j - 1)), le_X12_flush en d _ _ _ ?_, ?_⟩
  · have f112 : ∀ (k : Nat) (z : Int32) (M : fI) (r : qR), k < 3 → L_X12_flush_34 en d (nI t) (nI (k + 1)) (mM σ F (upd M (68 + (3 * t + k)) z) y g D) = some r → L_X12_flush_112 en d (nI t) (nI k) (nI (68 + (3 * t + k))) z (mM σ F M y g D) = some r := by
      intro k z M r hk h
      refine le_X12_flush_112 en d _ _ _ _ _ _ ?_
      simp (disch := omega) only [n_in, gdT, n_cl, nm_eq, mM_ws, n_ar]
      exact h
    have f75 : ∀ (k : Nat) (z1 z2 : Int32) (M : fI) (r : qR), k < 3 → z2 = (if 2 ≤ k then 0 else M (68 + (3 * t + (k + 1)))) → L_X12_flush_34 en d (nI t) (nI (k + 1)) (mM σ F (upd (upd M (56 + (3 * t + k)) z1) (68 + (3 * t + k)) z2) y g D) = some r → L_X12_flush_75 en d (nI t) (nI k) (nI (56 + (3 * t + k))) z1 (mM σ F M y g D) = some r := by
      intro k z1 z2 M r hk hz h
      refine le_X12_flush_75 en d _ _ _ _ _ _ ?_
      simp (disch := omega) only [n_in, gdT, n_cl, nm_eq, mM_ws, n_le, n_ml, n_al, nI_add, n_ar, mM_s, Nat.add_assoc]
      by_cases h2 : 2 ≤ k
      · rw [if_pos h2] at hz ⊢
        subst hz
        exact f112 k 0 _ r hk h
      · rw [if_neg h2] at hz ⊢
        rw [pk_un (by omega), ← hz]
        exact f112 k z2 _ r hk h
    have f34 : ∀ (k : Nat) (z1 z2 : Int32) (M : fI) (r : qR), k < 3 → z1 = (if 2 ≤ k then 0 else M (56 + (3 * t + (k + 1)))) → z2 = (if 2 ≤ k then 0 else M (68 + (3 * t + (k + 1)))) → L_X12_flush_34 en d (nI t) (nI (k + 1)) (mM σ F (upd (upd M (56 + (3 * t + k)) z1) (68 + (3 * t + k)) z2) y g D) = some r → L_X12_flush_34 en d (nI t) (nI k) (mM σ F M y g D) = some r := by
      intro k z1 z2 M r hk hz1 hz2 h
      refine le_X12_flush_34 en d _ _ _ _ ?_
      simp (disch := omega) only [n_le, if_neg, n_ml, n_al, nI_add, n_ar, mM_s, Nat.add_assoc]
      by_cases h2 : 2 ≤ k
      · rw [if_pos h2] at hz1 ⊢
        subst hz1
        exact f75 k 0 z2 _ r hk hz2 h
      · rw [if_neg h2] at hz1 ⊢
        simp (disch := omega) only [n_in, gdT, n_cl]
        rw [← hz1]
        exact f75 k z1 z2 _ r hk hz2 h
    simp (disch := omega) only [n_ml, n_al, n_in, gdT, n_cl, mM_s, nm_eq]
    have b0' : s (56 + 3 * t) = nI c := b0
    have v0' : s (68 + 3 * t) = v := v0
    simp (disch := omega) only [b0', v0', n_al, n_in, gdT, n_cl, mM_ws]
    refine f34 0 (n1 &&& (7 : Int32)) (n1 >>> ((3 : Int32) &&& 31)) _ _ (by decide) ?_ ?_ ?_
    · rw [if_neg (by decide), pk_un (by omega), Nat.zero_add, b1]
    · rw [if_neg (by decide), pk_un (by omega), Nat.zero_add, v1]
    refine f34 1 (n2 &&& (7 : Int32)) (n2 >>> ((3 : Int32) &&& 31)) _ _ (by decide) ?_ ?_ ?_
    · rw [if_neg (by decide), pk_un (by omega), pk_un (by omega), pk_un (by omega), b2]
    · rw [if_neg (by decide), pk_un (by omega), pk_un (by omega), pk_un (by omega), v2]
    refine f34 2 0 0 _ _ (by decide) (if_pos (by decide)).symm (if_pos (by decide)).symm ?_
    refine le_X12_flush_34 en d _ _ _ _ ?_
    have e52 : ∀ M : fI, M (52 + t) = nI j → ∀ z1 z2, upd (upd M (56 + (3 * t + 2)) z1) (68 + (3 * t + 2)) z2 (52 + t) = nI j := by
      intro M hM z1 z2
      rw [pk_un (by omega), pk_un (by omega), hM]
    have e52' := e52 (upd (upd (upd (upd (upd s (44 + c) v) (56 + (3 * t + 0)) (n1 &&& (7 : Int32))) (68 + (3 * t + 0)) (n1 >>> ((3 : Int32) &&& 31))) (56 + (3 * t + 1)) (n2 &&& (7 : Int32))) (68 + (3 * t + 1)) (n2 >>> ((3 : Int32) &&& 31))) (by rw [pk_un (by omega), pk_un (by omega), pk_un (by omega), pk_un (by omega), pk_un (by omega), eb]) 0 0
    simp (disch := omega) only [n_le, if_pos, n_al, n_in, gdT, n_cl, mM_s, nm_eq, e52', n_sr, mM_ws]
    rfl
  · have g0 := uw_tm (j := 44 + c) (v := v) hR (by omega) (by omega)
    have g1 := uw_be (j := 3 * t) (v := n1) g0 (by omega)
    have g2 := uw_be (j := 3 * t + 1) (v := n2) g1 (by omega)
    have g3 := uw_be (j := 3 * t + 2) (v := 0) g2 (by omega)
    have g4 := uw_bu (v := nI (j - 1)) g3 ht
    have e : upd (upd (upd (upd (upd N (44 + c + 4) v) (60 + 3 * t) n1) (60 + (3 * t + 1)) n2) (60 + (3 * t + 2)) 0) (56 + t) (nI (j - 1)) = flu N t c v := by
      unfold flu
      rw [hq, n_clp (by omega), show 60 + t * 3 + 1 = 60 + (3 * t + 1) by omega, show 60 + t * 3 + 2 = 60 + (3 * t + 2) by omega, hN1, hN2, show 60 + t * 3 = 60 + 3 * t by omega, show 44 + c + 4 = 48 + c by omega]
    rw [e] at g4
    exact g4
end ML2
