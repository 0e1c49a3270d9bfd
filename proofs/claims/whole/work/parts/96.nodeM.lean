/-! THE MODEL'S EXPRESSIONS: the loop. -/
section ME2
variable {en : pN} {d t i n top k K w e : Nat} {v q : Int32} {σ : qS} {F s y g N : fI} {D : Int64} {r : Option qR}
theorem nd_lin {V : Int32} (h : ndR t k q K V) : (k = 1 ∧ K = 0) ∨ (k = 2 ∧ K = 1) ∨ (k = 4 ∧ K = 2) ∨ (k = 33 ∧ K = 3) ∨ (4 < k ∧ k ≠ 33 ∧ 4 ≤ K ∧ K ≤ 14) ∨ (k = 2 ∧ 15 ≤ K ∧ K ≤ 21) ∨ (k = 3 ∧ 15 ≤ K ∧ K ≤ 21) := by
  rcases h with ⟨rfl, rfl, -⟩ | ⟨rfl, rfl, -⟩ | ⟨rfl, rfl⟩ | ⟨rfl, rfl⟩ | ⟨rfl, rfl⟩ | ⟨rfl, rfl⟩ | ⟨rfl, rfl⟩ | ⟨rfl, rfl⟩ | ⟨rfl, rfl⟩ | ⟨rfl, rfl⟩ | ⟨rfl, rfl⟩ | ⟨rfl, rfl⟩ | ⟨rfl, rfl⟩ | ⟨rfl, rfl⟩ | ⟨rfl, rfl⟩ | ⟨rfl, rfl, -⟩ | ⟨rfl, rfl, -⟩ | ⟨rfl, rfl, -⟩ | ⟨rfl, rfl, -⟩ | ⟨rfl, rfl, -⟩ | ⟨rfl, rfl, -⟩ | ⟨rfl, rfl, -⟩
  all_goals decide
/-- a value that comes onto the pile, and what is told of it -/
theorem m_w220 {x : Int32} (ht : top < 420) (hb : F 62 = 0 ∨ F 62 = 1) (hr : L_X12_worked_32 en (d + 3) (nI e) (nI t) (nI (top + 1)) (nI i + 1) (mM σ (upd F 62 (if F 62 = 0 then (if 999 < x ∨ x < -999 then 1 else 0) else 1)) s y (upd g top x) D) = r) (hs : r.isSome = true) : L_X12_worked_220 en (d + 3) (nI e) (nI t) (nI (top + 1)) (nI i) (mM σ F s y (upd g top x) D) = r := by
  obtain ⟨r0, rfl⟩ := Option.isSome_iff_exists.mp hs
  have f248 : ∀ z, z = (0 : Int32) ∨ z = 1 → L_X12_worked_32 en (d + 3) (nI e) (nI t) (nI (top + 1)) (nI i + 1) (mM σ (upd F 62 z) s y (upd g top x) D) = some r0 → L_X12_worked_248 en (d + 3) (nI e) (nI t) (nI (top + 1)) (nI i) z (mM σ F s y (upd g top x) D) = some r0 := by
    intro z hz h
    refine le_X12_worked_248 en (d + 3) _ _ _ _ _ _ _ ?_
    have : isB z = true := by rcases hz with rfl | rfl <;> rfl
    rw [gd_true this, nm_eq, mM_wF]
    exact h
  refine le_X12_worked_220 en (d + 3) _ _ _ _ _ _ ?_
  rw [mM_F]
  rcases hb with hb | hb
  · rw [if_neg (not_not_intro hb)]
    rw [if_pos hb] at hr
    have hv : qev en (d + 3) 295 [.int x] (mM σ F s y (upd g top x) D) = _ := m_isV
    simp (disch := omega) only [nI_pred, n_in, gdT, n_cl, mM_g, pk_us, hv, bI_some]
    by_cases hx : 999 < x ∨ x < -999
    · simp only [hx, if_true, not_true, if_false] at hr ⊢
      exact f248 1 (Or.inr rfl) hr
    · have n1 : ¬ ((1 : Int32) = 0) := by decide
      simp only [hx, if_false, n1, not_false_eq_true, if_true] at hr ⊢
      exact f248 0 (Or.inl rfl) hr
  · have n1 : ¬ ((1 : Int32) = 0) := by decide
    rw [hb, if_pos n1]
    rw [hb, if_neg n1] at hr
    exact f248 1 (Or.inr rfl) hr
/-- one node -/
theorem m_wnd {V : Int32} (hR : MR w N s) (hi : i < e) (he : e ≤ 900) (ht : t < 4) (hK : σ.1 161 i = nI K) (hV : σ.1 162 i = V) (hk : k ∈ opL) (ha : ar k ≤ top) (htop : top < 419) (hnd : ndR t k q K V) (hst : K = 21 → (F 64 = 0 ∨ F 64 = 1) ∧ N 234 = F 64) (hq2 : k = 2 → ∃ z, q = nI z ∧ z < 236) (hb : F 62 = 0 ∨ F 62 = 1)
    (hr : L_X12_worked_32 en (d + 3) (nI e) (nI t) (nI (top - ar k + 1)) (nI i + 1) (mM σ (upd F 62 (if F 62 = 0 then (if 999 < ap k q (g (top - ar k)) (g (top - ar k + 1)) N ∨ ap k q (g (top - ar k)) (g (top - ar k + 1)) N < -999 then 1 else 0) else 1)) s y (upd g (top - ar k) (ap k q (g (top - ar k)) (g (top - ar k + 1)) N)) D) = r) (hs : r.isSome = true) :
    L_X12_worked_32 en (d + 3) (nI e) (nI t) (nI top) (nI i) (mM σ F s y g D) = r := by
  have h220 := m_w220 (d := d) (i := i) (top := top - ar k) (by omega) hb hr hs
  obtain ⟨r0, rfl⟩ := Option.isSome_iff_exists.mp hs
  have o1 : (mM σ F s y g D).1 161 = σ.1 161 := mM_o (by decide) (by decide) (by decide) (by decide)
  have o2 : (mM σ F s y g D).1 162 = σ.1 162 := mM_o (by decide) (by decide) (by decide) (by decide)
  have hlin := nd_lin hnd
  have hKl : K ≤ 21 := by omega
  have key4 : 4 ≤ K → K ≤ 14 → L_X12_worked_32 en (d + 3) (nI e) (nI t) (nI top) (nI i) (mM σ F s y g D) = some r0 := by
    intro a1 a2
    have hk2 : ar k = 2 := by
      unfold ar
      rw [if_neg (by omega), if_neg (by omega)]
    rw [hk2] at h220 ha
    refine le_X12_worked_32 en (d + 3) _ _ _ _ _ _ ?_
    have hj : qev en (d + 3) 297 [.int (nI K), .int (g (top - 2)), .int (g (top - 2 + 1))] (mM σ F s y g D) = _ := m_joined (d := d + 1) (N := N) hnd a1 a2
    obtain ⟨tp, rfl⟩ : ∃ tp, top = tp + 2 := ⟨top - 2, by omega⟩
    rw [show tp + 2 - 2 = tp by omega] at hj h220
    have ec : nI (tp + 2) + (-1 : Int32) = nI (tp + 1) := n_cm1
    simp (disch := omega) only [n_LE, if_neg, n_in, gdT, nm_eq, o1, o2, n_cl, hK, hV, n_gt, n_lt, ec, nI_pred, mM_g, hj, bI_some, mM_wg]
    exact h220
  have key216 : ∀ x : Int32, ar k = 0 → x = ap k q (g (top - ar k)) (g (top - ar k + 1)) N → L_X12_worked_216 en (d + 3) (nI e) (nI t) (nI top) (nI i) (nI top) x (mM σ F s y g D) = some r0 := by
    intro x a0 hx
    rw [← hx, a0, Nat.sub_zero] at h220
    refine le_X12_worked_216 en (d + 3) _ _ _ _ _ _ _ _ ?_
    simp (disch := omega) only [n_in, gdT, n_cl, nm_eq, mM_wg, n_ar]
    exact h220
  have key117 : ar k = 1 → (k = 4 ∧ K = 2 ∨ k = 33 ∧ K = 3) → L_X12_worked_117 en (d + 3) (nI e) (nI t) (nI top) (nI i) (nI K) (mM σ F s y g D) = some r0 := by
    intro a1 hh
    rw [a1] at h220
    obtain ⟨tp, rfl⟩ : ∃ tp, top = tp + 1 := ⟨top - 1, by omega⟩
    rw [Nat.add_sub_cancel] at h220
    have f164 : ∀ x : Int32, x = ap k q (g tp) (g (tp + 1)) N → L_X12_worked_164 en (d + 3) (nI e) (nI t) (nI (tp + 1)) (nI i) (nI tp) x (mM σ F s y g D) = some r0 := by
      intro x hx
      rw [← hx] at h220
      refine le_X12_worked_164 en (d + 3) _ _ _ _ _ _ _ _ ?_
      simp (disch := omega) only [n_in, gdT, n_cl, nm_eq, mM_wg]
      exact h220
    refine le_X12_worked_117 en (d + 3) _ _ _ _ _ _ _ ?_
    rcases hh with ⟨rfl, rfl⟩ | ⟨rfl, rfl⟩
    · simp (disch := omega) only [n_eq, not_true, if_false, nI_pred, n_in, gdT, n_cl, mM_g]
      exact f164 _ ap_4.symm
    · have n32 : ¬ (3 : Nat) = 2 := by decide
      simp (disch := omega) only [n_eq, n32, not_false_eq_true, if_true, nI_pred, n_in, gdT, n_cl, mM_g]
      have f161 : ∀ x : Int32, x = 0 ∨ x = 1 → x = ap 33 q (g tp) (g (tp + 1)) N → L_X12_worked_161 en (d + 3) (nI e) (nI t) (nI (tp + 1)) (nI i) (nI tp) x (mM σ F s y g D) = some r0 := by
        intro x h01 hx
        refine le_X12_worked_161 en (d + 3) _ _ _ _ _ _ _ _ ?_
        rcases h01 with rfl | rfl
        · rw [m_truth0, bI_some]; exact f164 _ hx
        · rw [m_truth1, bI_some]; exact f164 _ hx
      by_cases hz : g tp = 0
      · rw [if_neg (not_not_intro hz)]
        exact f161 1 (Or.inr rfl) (by rw [ap_33, if_neg (not_not_intro hz)])
      · rw [if_pos hz]
        exact f161 0 (Or.inl rfl) (by rw [ap_33, if_pos hz])
  have key105 : K < 4 ∨ 14 < K → L_X12_worked_105 en (d + 3) (nI e) (nI t) (nI top) (nI i) (nI K) V (mM σ F s y g D) = some r0 := by
    intro hcase
    refine le_X12_worked_105 en (d + 3) _ _ _ _ _ _ _ _ ?_
    simp (disch := omega) only [n_eq]
    by_cases h2 : K = 2
    · rw [if_pos h2]
      have hh : k = 4 ∧ K = 2 ∨ k = 33 ∧ K = 3 := by omega
      refine key117 ?_ hh
      rcases hh with ⟨rfl, -⟩ | ⟨rfl, -⟩ <;> rfl
    · rw [if_neg h2]
      by_cases h3 : K = 3
      · rw [if_neg (not_not_intro h3)]
        have hh : k = 4 ∧ K = 2 ∨ k = 33 ∧ K = 3 := by omega
        refine key117 ?_ hh
        rcases hh with ⟨rfl, -⟩ | ⟨rfl, -⟩ <;> rfl
      · rw [if_pos h3]
        by_cases h0 : K = 0
        · rw [if_neg (not_not_intro h0)]
          subst h0
          rcases hnd with h | ⟨-, h, -⟩ | ⟨-, h⟩ | ⟨-, h⟩ | ⟨-, h⟩ | ⟨-, h⟩ | ⟨-, h⟩ | ⟨-, h⟩ | ⟨-, h⟩ | ⟨-, h⟩ | ⟨-, h⟩ | ⟨-, h⟩ | ⟨-, h⟩ | ⟨-, h⟩ | ⟨-, h⟩ | ⟨-, h, -⟩ | ⟨-, h, -⟩ | ⟨-, h, -⟩ | ⟨-, h, -⟩ | ⟨-, h, -⟩ | ⟨-, h, -⟩ | ⟨-, h, -⟩
          · refine key216 _ ?_ ?_
            · rw [h.1]; rfl
            · rw [h.1, h.2.2]; rfl
          all_goals exact absurd h (by decide)
        · rw [if_pos h0]
          by_cases h1 : K = 1
          · rw [if_neg (not_not_intro h1)]
            subst h1
            rcases hnd with ⟨-, h, -⟩ | ⟨rfl, -, j, hj, hq, rfl⟩ | ⟨-, h⟩ | ⟨-, h⟩ | ⟨-, h⟩ | ⟨-, h⟩ | ⟨-, h⟩ | ⟨-, h⟩ | ⟨-, h⟩ | ⟨-, h⟩ | ⟨-, h⟩ | ⟨-, h⟩ | ⟨-, h⟩ | ⟨-, h⟩ | ⟨-, h⟩ | ⟨-, h, -⟩ | ⟨-, h, -⟩ | ⟨-, h, -⟩ | ⟨-, h, -⟩ | ⟨-, h, -⟩ | ⟨-, h, -⟩ | ⟨-, h, -⟩
            · exact absurd h (by decide)
            · simp (disch := omega) only [n_ml, n_al, nI_add, n_in, gdT, n_cl, mM_s]
              refine key216 _ rfl ?_
              rw [mr_lo hR (by omega) (by omega), hq]
              show _ = N (nI (16 + t * 6 + j)).toNatClampNeg
              rw [n_cl (by omega), show 12 + 6 * t + j + 4 = 16 + t * 6 + j by omega]
            all_goals exact absurd h (by decide)
          · rw [if_pos h1]
            have h15 : 15 ≤ K := by omega
            have hf : qev en (d + 3) 298 [.ref 151, .int (nI K), .int V] (mM σ F s y g D) = _ := m_fact (d := d + 1) (a := g (top - ar k)) (b := g (top - ar k + 1)) hR hnd h15 hst
            rw [hf, bI_some]
            refine key216 _ ?_ rfl
            have : k = 2 ∨ k = 3 := by omega
            rcases this with rfl | rfl <;> rfl
  by_cases h4 : 4 ≤ K ∧ K ≤ 14
  · exact key4 h4.1 h4.2
  · refine le_X12_worked_32 en (d + 3) _ _ _ _ _ _ ?_
    simp (disch := omega) only [n_LE, if_neg, n_in, gdT, nm_eq, o1, o2, n_cl, hK, hV, n_gt, n_lt]
    by_cases h3 : K < 4
    · rw [if_pos h3]; exact key105 (Or.inl h3)
    · rw [if_neg h3, if_pos (by omega)]; exact key105 (Or.inr (by omega))
end ME2
