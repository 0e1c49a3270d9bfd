/-! THE FIRST STATE of the model. -/
section F1
variable {en : pN} {d m p t c k a w i n l u ch q o nc nl nt vv : Nat} {v x b : Int32} {σ : qS} {P : Nat → fI} {F N G R s y g : fI} {D : Int64}
/-- threads begin, one behind another -/
def mft (P : Nat → fI) (N : fI) : Nat → fI
  | 0 => N
  | t + 1 => if isL P t = false then gto (mft P N t) t (P 5 t) else mft P N t
theorem mft_at {N : fI} : ∀ t j : Nat, t ≤ 4 → mft P N t j = if j < t ∧ isL P j = false then (if 0 ≤ P 5 j then 1 else 4) else if 4 ≤ j ∧ j < 4 + t ∧ isL P (j - 4) = false then P 5 (j - 4) else N j := by
  intro t
  induction t with
  | zero => intro j _; rw [if_neg (fun z => by have := z.1; omega), if_neg (fun z => by have := z.2.1; omega)]; rfl
  | succ t ih =>
    intro j ht
    have h := ih j (by omega)
    have rest : (j ≠ t ∨ ¬ isL P t = false) → (j ≠ 4 + t ∨ ¬ isL P t = false) → mft P N t j = if j < t + 1 ∧ isL P j = false then (if 0 ≤ P 5 j then 1 else 4) else if 4 ≤ j ∧ j < 4 + (t + 1) ∧ isL P (j - 4) = false then P 5 (j - 4) else N j := by
      intro a1 a2
      rw [h]
      refine ite_cg ⟨fun z => ⟨?_, z.2⟩, fun z => ⟨?_, z.2⟩⟩ rfl (ite_cg ⟨fun z => ⟨z.1, ?_, z.2.2⟩, fun z => ⟨z.1, ?_, z.2.2⟩⟩ rfl rfl)
      · have := z.1; omega
      · have h1 := z.1
        have : j ≠ t := by
          rcases a1 with a1 | a1
          · exact a1
          · intro q; rw [q] at z; exact a1 z.2
        omega
      · have := z.2.1; omega
      · have h1 := z.1
        have h2 := z.2.1
        have : j ≠ 4 + t := by
          rcases a2 with a2 | a2
          · exact a2
          · intro q; rw [q, show 4 + t - 4 = t by omega] at z; exact a2 z.2.2
        omega
    by_cases hc : isL P t = false
    · rw [show mft P N (t + 1) = gto (mft P N t) t (P 5 t) from if_pos hc]
      unfold gto
      by_cases a1 : j = t
      · rw [a1, pk_us]
        exact (if_pos ⟨by omega, hc⟩).symm
      · rw [pk_un a1]
        by_cases a2 : j = 4 + t
        · rw [a2, pk_us]
          exact ((if_neg (fun z => by have := z.1; omega)).trans ((if_pos ⟨by omega, by omega, by rw [show 4 + t - 4 = t by omega]; exact hc⟩).trans (by rw [show 4 + t - 4 = t by omega]))).symm
        · rw [pk_un a2]; exact rest (Or.inl a1) (Or.inl a2)
    · rw [show mft P N (t + 1) = mft P N t from if_neg hc]
      exact rest (Or.inr hc) (Or.inr hc)
theorem m_first (hB : MB σ vv P nc nl nt n) (hw2 : w ≤ 2) (hc8 : nc ≤ 8) (ht4 : nt ≤ 4) (hF12 : F 12 = nI nc) (hF16 : F 16 = nI nl) (hF18 : F 18 = nI nt) : ∃ (s' y' : fI), qev en (d + 3) 300 [.ref 151, .int (nI vv), .int (nI w)] (mM σ F s y g D) = some (none, mM σ (upd (upd (upd F 59 (nI vv)) 58 (nI w)) 60 (nI (wid w))) s' y' g D) ∧ MR w (fst0 P w nc nt N) s' ∧ (∀ u, u < nt → y' u = 0) := by
  obtain ⟨hv, hBl, hBc, hBt⟩ := hB
  generalize hFF : upd (upd (upd F 59 (nI vv)) 58 (nI w)) 60 (nI (wid w)) = F1
  have hMF : MF F1 w vv nc nl nt := by
    rw [← hFF]
    refine ⟨?_, ?_, ?_, ?_, ?_⟩
    · rw [pk_un (by decide), pk_un (by decide), pk_un (by decide)]; exact hF12
    · rw [pk_un (by decide), pk_un (by decide), pk_un (by decide)]; exact hF16
    · rw [pk_un (by decide), pk_un (by decide), pk_un (by decide)]; exact hF18
    · rw [pk_un (by decide), pk_us]
    · rw [pk_un (by decide), pk_un (by decide), pk_us]
  have o154 : ∀ (s y : fI), (mM σ F1 s y g D).1 154 = σ.1 154 := fun s y => mM_o (by decide) (by decide) (by decide) (by decide)
  have o158 : ∀ (s y : fI), (mM σ F1 s y g D).1 158 = σ.1 158 := fun s y => mM_o (by decide) (by decide) (by decide) (by decide)
  -- threads
  have f106 : ∀ (k t : Nat) (M s1 y1 : fI), t + k = nt → MR w (mft P M t) s1 → (∀ j, t ≤ j → j < 4 → M j = 0) → (∀ u, u < t → y1 u = 0) → ∃ (s' y' : fI), L_X12_firstState_106 en (d + 2) (nI t) (mM σ F1 s1 y1 g D) = some (none, mM σ F1 s' y' g D) ∧ MR w (mft P M nt) s' ∧ (∀ u, u < nt → y' u = 0) := by
    intro k
    induction k with
    | zero =>
      intro t M s1 y1 hk hM hM0 hy
      obtain rfl : t = nt := by omega
      refine ⟨s1, y1, le_X12_firstState_106 en (d + 2) _ _ _ ?_, hM, hy⟩
      rw [mM_F, hMF.2.2.1, if_pos (Int32.le_refl _)]
    | succ k ih =>
      intro t M s1 y1 hk hM hM0 hy
      obtain ⟨hl, h5, h181⟩ := hBt t (by omega)
      have hy' : ∀ u, u < t + 1 → upd y1 t 0 u = 0 := fun u hu => by
        by_cases q : u = t
        · rw [q, pk_us]
        · rw [pk_un q]; exact hy u (by omega)
      by_cases hc : isL P t = false
      · have hst : mft P M t t = 0 := by
          rw [mft_at t t (by omega), if_neg (fun z => by have := z.1; omega), if_neg (fun z => by have := z.1; omega)]
          exact hM0 t (Nat.le_refl _) (by omega)
        obtain ⟨s2, e1, e2⟩ := m_begin (en := en) (d := d) (σ := σ) (F := F1) (y := upd y1 t 0) (g := g) (D := D) rfl h181 hMF hM hv (by omega) hst
        rw [← h5] at e2
        obtain ⟨s3, y3, e3, e4⟩ := ih (t + 1) M s2 (upd y1 t 0) (by omega) (by rw [show mft P M (t + 1) = gto (mft P M t) t (P 5 t) from if_pos hc]; exact e2) (fun j a b => hM0 j (by omega) b) hy'
        refine ⟨s3, y3, le_X12_firstState_106 en (d + 2) _ _ _ ?_, e4⟩
        simp (disch := omega) only [mM_F, hMF.2.2.1, n_LE, if_neg, n_in, gdT, n_cl, nm_eq, mM_wy, o158, hl, hc, bt_f, not_true, if_false, e1, bV_some, n_ar]
        exact e3
      · have hc' : isL P t = true := by revert hc; cases isL P t <;> simp
        obtain ⟨s3, y3, e3, e4⟩ := ih (t + 1) M s1 (upd y1 t 0) (by omega) (by rw [show mft P M (t + 1) = mft P M t from if_neg hc]; exact hM) (fun j a b => hM0 j (by omega) b) hy'
        refine ⟨s3, y3, le_X12_firstState_106 en (d + 2) _ _ _ ?_, e4⟩
        have n1 : ¬ ((1 : Int32) = 0) := by decide
        simp (disch := omega) only [mM_F, hMF.2.2.1, n_LE, if_neg, n_in, gdT, n_cl, nm_eq, mM_wy, o158, hl, hc', bt_t, n1, not_false_eq_true, if_true, n_ar]
        exact e3
  -- cells
  have f42 : ∀ (k c : Nat) (M s1 y1 : fI), c + k = nc → MR w (fc P w M c) s1 → (∀ j, j < 4 → M j = 0) → ∃ (s' y' : fI), L_X12_firstState_42 en (d + 2) (nI w) (nI c) (mM σ F1 s1 y1 g D) = some (none, mM σ F1 s' y' g D) ∧ MR w (mft P (fc P w M nc) nt) s' ∧ (∀ u, u < nt → y' u = 0) := by
    intro k
    induction k with
    | zero =>
      intro c M s1 y1 hk hM hM0
      obtain rfl : c = nc := by omega
      obtain ⟨s3, y3, e3, e4⟩ := f106 nt 0 (fc P w M c) s1 y1 (by omega) hM (fun j a b => by
        rw [fc_at c j (by omega), if_neg (by omega), if_neg (by omega), if_neg (by omega)]; exact hM0 j b) (fun u hu => by omega)
      refine ⟨s3, y3, le_X12_firstState_42 en (d + 2) _ _ _ _ ?_, e4⟩
      rw [mM_F, hMF.1, if_pos (Int32.le_refl _)]
      exact e3
    | succ k ih =>
      intro c M s1 y1 hk hM hM0
      obtain ⟨h154, -⟩ := hBc c (by omega)
      have g1 := uw_tm (j := 44 + c) (v := P 4 c) hM (by omega) (by omega)
      rw [show 44 + c + 4 = 48 + c by omega] at g1
      by_cases h2 : w = 2
      · subst h2
        have g2 := uw_v (j := 52 + c) (v := 1) g1 (by omega) (by omega)
        have g3 := uw_v (j := 60 + 9 * c) (v := P 4 c) g2 (by omega) (by omega)
        rw [show 52 + c + 20 = 72 + c by omega, show 60 + 9 * c + 20 = 80 + c * 9 by omega] at g3
        obtain ⟨s3, y3, e3, e4⟩ := ih (c + 1) M _ y1 (by omega) (by rw [show fc P 2 M (c + 1) = upd (upd (upd (fc P 2 M c) (48 + c) (P 4 c)) (72 + c) 1) (80 + c * 9) (P 4 c) from rfl]; exact g3) hM0
        refine ⟨s3, y3, le_X12_firstState_42 en (d + 2) _ _ _ _ ?_, e4⟩
        simp (disch := omega) only [mM_F, hMF.1, n_LE, if_neg, n_in, gdT, n_cl, n_al, o154, h154, nm_eq, mM_ws, n_eq, not_true, if_false, n_ml, n_ar]
        exact e3
      · obtain ⟨s3, y3, e3, e4⟩ := ih (c + 1) M _ y1 (by omega) (by rw [show fc P w M (c + 1) = upd (fc P w M c) (48 + c) (P 4 c) from if_neg h2]; exact g1) hM0
        refine ⟨s3, y3, le_X12_firstState_42 en (d + 2) _ _ _ _ ?_, e4⟩
        simp (disch := omega) only [mM_F, hMF.1, n_LE, if_neg, n_in, gdT, n_cl, n_al, o154, h154, nm_eq, mM_ws, n_eq, h2, not_false_eq_true, if_true, n_ar]
        exact e3
  -- all is empty first
  have f20 : ∀ (k j : Nat) (s1 y1 : fI), j + k = 216 → (∀ i, i < j → s1 i = 0) → ∃ (s' y' : fI), L_X12_firstState_20 en (d + 2) (nI w) (nI j) (mM σ F1 s1 y1 g D) = some (none, mM σ F1 s' y' g D) ∧ MR w (mft P (fc P w (zst N) nc) nt) s' ∧ (∀ u, u < nt → y' u = 0) := by
    intro k
    induction k with
    | zero =>
      intro j s1 y1 hk h0
      obtain rfl : j = 216 := by omega
      have hz : MR w (zst N) s1 := fun i hi => by
        rw [h0 i (by
          rcases (show w = 0 ∨ w = 1 ∨ w = 2 by omega) with rfl | rfl | rfl
          · rw [wid_0] at hi; omega
          · rw [wid_1] at hi; omega
          · rw [wid_2] at hi; omega)]
        exact mr_zst hw2 i hi
      obtain ⟨s3, y3, e3, e4⟩ := f42 nc 0 (zst N) s1 y1 (by omega) hz (fun j hj => by unfold zst; rw [if_neg (by omega), if_neg (by omega), if_pos (by omega)])
      refine ⟨s3, y3, le_X12_firstState_20 en (d + 2) _ _ _ _ ?_, e4⟩
      rw [if_pos (show (216 : Int32) ≤ nI 216 by decide)]
      exact e3
    | succ k ih =>
      intro j s1 y1 hk h0
      obtain ⟨s3, y3, e3, e4⟩ := ih (j + 1) (upd s1 j 0) y1 (by omega) (fun i hi => by
        by_cases q : i = j
        · rw [q, pk_us]
        · rw [pk_un q]; exact h0 i (by omega))
      refine ⟨s3, y3, le_X12_firstState_20 en (d + 2) _ _ _ _ ?_, e4⟩
      simp (disch := omega) only [n_le, if_neg, n_in, gdT, n_cl, nm_eq, mM_ws, n_ar]
      exact e3
  obtain ⟨s', y', e1, e2, e3⟩ := f20 216 0 s y rfl (fun i hi => by omega)
  refine ⟨s', y', le_X12_firstState en (d + 2) _ _ _ _ ?_, ?_, e3⟩
  · have hwid : qev en (d + 2) 299 [.int (nI w)] (mM σ (upd (upd F 59 (nI vv)) 58 (nI w)) s y g D) = some (some (.int (nI (wid w))), mM σ (upd (upd F 59 (nI vv)) 58 (nI w)) s y g D) := by
      refine le_X12_widthOf en (d + 1) _ _ _ ?_
      rcases (show w = 0 ∨ w = 1 ∨ w = 2 by omega) with rfl | rfl | rfl <;> rfl
    rw [nm_eq, mM_wF, nm_eq, mM_wF, hwid, bI_some, nm_eq, mM_wF, hFF]
    exact e1
  · refine mr_un (fun i hi => sm_congr fun a ha => ?_) e2
    have ha236 : a < 236 := by
      rcases (show w = 0 ∨ w = 1 ∨ w = 2 by omega) with rfl | rfl | rfl
      · rw [wid_0] at hi; omega
      · rw [wid_1] at hi; omega
      · rw [wid_2] at hi; omega
    rw [f0_at hc8, mft_at nt a ht4, fc_at nc a hc8]
    by_cases c1 : a < nt ∧ isL P a = false
    · rw [if_pos c1, if_pos ⟨by have := c1.1; omega, c1⟩]
    · rw [if_neg c1, if_neg (fun z => c1 z.2)]
      by_cases c2 : 4 ≤ a ∧ a < 8
      · rw [if_pos c2]
        by_cases c3 : a - 4 < nt ∧ isL P (a - 4) = false
        · rw [if_pos c3, if_pos ⟨c2.1, by have := c3.1; omega, c3.2⟩]
        · rw [if_neg c3, if_neg (fun z => c3 ⟨by have := z.2.1; omega, z.2.2⟩), if_neg (by omega), if_neg (by omega), if_neg (by omega)]
          unfold zst
          rw [if_neg (by omega), if_pos c2]
      · have c2' : ¬ (4 ≤ a ∧ a < 4 + nt ∧ isL P (a - 4) = false) := fun z => c2 ⟨z.1, by have := z.2.1; omega⟩
        rw [if_neg c2, if_neg c2']
        by_cases c4 : 40 ≤ a ∧ a < 44
        · rw [if_pos c4, if_neg (by omega), if_neg (by omega), if_neg (by omega)]
          unfold zst
          rw [if_pos c4]
        · rw [if_neg c4]
          refine ite_cg Iff.rfl rfl (ite_cg Iff.rfl rfl (ite_cg Iff.rfl rfl ?_))
          unfold zst
          rw [if_neg c4, if_neg c2]
end F1
