/-! THE CLASS'S MACHINE: take. -/
/-- what a line needs so that its step can be taken -/
abbrev lnOK (P : Nat → fI) (i : Nat) : Prop := expOK P 5 i ∧ expOK P 7 i ∧ (P 10 i = -2 ∨ ∃ k, P 10 i = nI k ∧ k < 6)
section XL4
variable {en : pN} {d m p t c k a w i n l u ch q o : Nat} {v x b : Int32} {σ : qS} {P : Nat → fI} {F N G : fI}
theorem x_begins (hB : XB σ m p P) (ht : t < 4) (hu : u < 4) : qev en (d + 2) 63 [.ref m, .int (nI t), .int (nI u)] (mS σ m F N b G) = some (some (.int (metS P N t u 10).1), mS σ m F (metS P N t u 10).2 b G) := by
  refine le_X3_begins en (d + 1) m _ _ _ _ ?_
  simp (disch := omega) only [xb_lm hB, gdT, gdP (xb_lp hB), xb_R hB, Nat.add_sub_cancel, nm_eq, n_al, n_in, n_cl, mS_n, Nat.zero_add, xb_P hB (show 5 < 25 by decide), x_go hB hu, bV_some, mS_wn]
  unfold metS
  rw [if_pos rfl]
  have e : gto N u (P 5 u) (224 + t) = N (224 + t) := by unfold gto; rw [pk_un (by omega), pk_un (by omega)]
  by_cases h : N u = 0
  · simp only [h, if_true, not_true, if_false, e]
  · simp only [h, if_false, not_false_eq_true, if_true]
theorem x_meet (hB : XB σ m p P) (ht : t < 4) (hk : F 10 = nI k) (h1 : 10 ≤ k) (h2 : k ≤ 13) (hu : k = 10 ∨ k = 11 → ∃ u, x = nI u ∧ u < 4 ∧ u = o) : ∃ F' : fI, qev en (d + 3) 62 [.ref m, .int (nI t), .int x] (mS σ m F N b G) = some (some (.int (metS P N t o k).1), mS σ m F' (metS P N t o k).2 b G) ∧ (∀ j, j ≠ 12 → F' j = F j) ∧ F' 12 = if k = 13 then -1 else F 12 := by
  rcases (show k = 10 ∨ k = 11 ∨ k = 12 ∨ k = 13 by omega) with rfl | rfl | rfl | rfl
  · obtain ⟨u, rfl, hu4, rfl⟩ := hu (Or.inl rfl)
    refine ⟨F, le_X3_meet en (d + 2) m _ _ _ _ ?_, fun j _ => rfl, rfl⟩
    simp (disch := omega) only [xb_lm hB, gdT, mS_m, hk, n_eq, Nat.reduceEqDiff, not_true, if_false, x_begins hB ht hu4, bI_some]
  · obtain ⟨u, rfl, hu4, rfl⟩ := hu (Or.inr rfl)
    refine ⟨F, le_X3_meet en (d + 2) m _ _ _ _ ?_, fun j _ => rfl, rfl⟩
    simp (disch := omega) only [xb_lm hB, gdT, mS_m, hk, n_eq, Nat.reduceEqDiff, not_true, not_false_eq_true, if_true, if_false, n_al, n_in, n_cl, mS_n, x_learn hB ht, bV_some]
    rfl
  · refine ⟨F, le_X3_meet en (d + 2) m _ _ _ _ ?_, fun j _ => rfl, rfl⟩
    simp (disch := omega) only [xb_lm hB, gdT, mS_m, hk, n_eq, Nat.reduceEqDiff, not_true, not_false_eq_true, if_true, if_false, n_al, n_in, n_cl, mS_n, x_learn hB ht, bV_some, nm_eq, mS_wn]
    rw [show lrn N t (N 232) (224 + t) = jn (N (224 + t)) (N 232) from pk_us]
    rfl
  · refine ⟨upd F 12 (-1), le_X3_meet en (d + 2) m _ _ _ _ ?_, fun j hj => pk_un hj, pk_us⟩
    simp (disch := omega) only [xb_lm hB, gdT, mS_m, hk, n_eq, Nat.reduceEqDiff, not_true, not_false_eq_true, if_true, if_false, nm_eq, mS_wm]
    rfl
theorem x_tell (hB : XB σ m p P) (hk : F 10 = nI k) (h1 : 14 ≤ k) (h2 : k ≤ 18) (hF : F 9 = nI i) (hi : i < 100) (hx : expOK P 5 i) : ∃ (F' G' : fI) (b' : Int32), qev en (d + 4) 64 [.ref m] (mS σ m F N b G) = some (some (.int (telS P N i k)), mS σ m F' N b' G') ∧ (∀ j, j ≠ 11 → j ≠ 12 → F' j = F j) ∧ (telS P N i k = 0 → F' 11 = exr (exv P 5 N i)) ∧ F' 12 = if (k = 17 ∨ k = 18) ∧ ¬ exr (exv P 5 N i) = 0 then P 22 i else F 12 := by
  obtain ⟨G', hG⟩ := x_wo (en := en) (d := d) (N := N) (b := b) (G := G) (Or.inl rfl) hB hF hi hx
  have hG : qev en (d + 3) 53 [.ref m, .int (5 : Int32)] (mS σ m F N b G) = some (some (.int (exr (exv P 5 N i))), mS σ m F N (exb (exv P 5 N i)) G') := hG
  unfold telS
  cases hv : exv P 5 N i with
  | none =>
    rw [hv] at hG
    refine ⟨F, G', 1, le_X3_tell en (d + 3) m _ _ ?_, fun j _ _ => rfl, fun z => absurd (show (1 : Int32) = 0 from z) (by decide), ?_⟩
    · have ne : ¬ ((1 : Int32) = 0) := by decide
      simp (disch := omega) only [xb_lm hB, gdT, hG, bI_some, gdP (xb_lp hB), xb_R hB, Nat.add_sub_cancel, nm_eq, mS_b hB.1, exb, ne, if_false]
    · rw [if_neg (fun z => z.2 rfl)]
  | some y =>
    rw [hv] at hG
    have hb : ∀ M : fI, L_X3_tell_77 en (d + 3) m y (mS σ m M N 0 G') = some (some (.int 0), mS σ m (upd M 11 y) N 0 G') := by
      intro M
      refine le_X3_tell_77 en (d + 3) m _ _ _ ?_
      simp only [xb_lm hB, gdT, nm_eq, mS_wm]
    have h36 : ∃ F' : fI, L_X3_tell_36 en (d + 3) m y (mS σ m F N 0 G') = some (some (.int 0), mS σ m F' N 0 G') ∧ (∀ j, j ≠ 11 → j ≠ 12 → F' j = F j) ∧ F' 11 = y ∧ F' 12 = if (k = 17 ∨ k = 18) ∧ ¬ y = 0 then P 22 i else F 12 := by
      by_cases g : (k = 17 ∨ k = 18) ∧ ¬ y = 0
      · refine ⟨upd (upd F 12 (P 22 i)) 11 y, le_X3_tell_36 en (d + 3) m _ _ _ ?_, fun j a1 a2 => by rw [pk_un a1, pk_un a2], pk_us, ?_⟩
        · have h54 : L_X3_tell_54 en (d + 3) m y (mS σ m F N 0 G') = some (some (.int 0), mS σ m (upd (upd F 12 (P 22 i)) 11 y) N 0 G') := by
            refine le_X3_tell_54 en (d + 3) m _ _ _ ?_
            simp (disch := omega) only [xb_lm hB, gdT, g.2, if_false, gdP (xb_lp hB), xb_R hB, Nat.add_sub_cancel, nm_eq, mS_m, hF, n_in, n_cl, xb_P hB (show 22 < 25 by decide), mS_wm, hb]
          simp (disch := omega) only [xb_lm hB, gdT, mS_m, hk, n_eq, h54]
          rcases g.1 with q | q
          · rw [if_pos q]
          · rw [if_neg (by omega), if_neg (not_not_intro q)]
        · rw [if_pos g, pk_un (by decide), pk_us]
      · refine ⟨upd F 11 y, le_X3_tell_36 en (d + 3) m _ _ _ ?_, fun j a1 a2 => pk_un a1, pk_us, ?_⟩
        · simp (disch := omega) only [xb_lm hB, gdT, mS_m, hk, n_eq, hb]
          by_cases q : k = 17 ∨ k = 18
          · have y0 : y = 0 := by
              by_cases z : y = 0
              · exact z
              · exact absurd ⟨q, z⟩ g
            have h54 : L_X3_tell_54 en (d + 3) m y (mS σ m F N 0 G') = some (some (.int 0), mS σ m (upd F 11 y) N 0 G') := by
              refine le_X3_tell_54 en (d + 3) m _ _ _ ?_
              rw [gd_true (xb_lm hB), if_pos y0, hb]
            rw [h54]
            split
            · rfl
            · split <;> rfl
          · rw [if_neg (fun z => q (Or.inl z)), if_pos (fun z => q (Or.inr z))]
        · rw [if_neg g, pk_un (by decide)]
    obtain ⟨F', e1, e2, e3, e4⟩ := h36
    by_cases g : k = 14 ∧ y = 0
    · refine ⟨F, G', 0, le_X3_tell en (d + 3) m _ _ ?_, fun j _ _ => rfl, fun z => absurd z ?_, ?_⟩
      · have e14 : ¬ (¬ (k = 14)) := not_not_intro g.1
        simp (disch := omega) only [xb_lm hB, gdT, hG, bI_some, gdP (xb_lp hB), xb_R hB, Nat.add_sub_cancel, nm_eq, mS_b hB.1, exb, if_true, mS_m, hk, n_eq, g.1, not_true, if_false]
        rw [show exr (some y) = y from rfl, if_neg (not_not_intro g.2), g.2]
        rfl
      · simp only [g, and_self, if_true]; decide
      · rw [if_neg (fun z => z.2 g.2)]
    · refine ⟨F', G', 0, le_X3_tell en (d + 3) m _ _ ?_, e2, fun _ => e3, e4⟩
      simp (disch := omega) only [xb_lm hB, gdT, hG, bI_some, gdP (xb_lp hB), xb_R hB, Nat.add_sub_cancel, nm_eq, mS_b hB.1, exb, if_true, mS_m, hk, n_eq, exr, Option.getD_some, e1]
      rw [if_neg g]
      by_cases q : k = 14
      · rw [if_neg (not_not_intro q), if_pos (fun z => g ⟨q, z⟩)]
      · rw [if_pos q]
theorem x_lock (hB : XB σ m p P) (ht : t < 4) (hl : l < 4) (hk : F 10 = nI k) (h1 : 5 ≤ k) (h2 : k ≤ 9) (hch : ch < 100) (hnt : P 0 11 = nI n) (hn : n ≤ 4) (hs : ∀ u, u < n → N u = 2 → ∃ i, N (4 + u) = nI i ∧ i < 100) : qev en (d + 3) 58 [.ref m, .int (nI t), .int (nI l), .int (nI ch)] (mS σ m F N b G) = some (some (.int (lckS P N t l ch k n).1), mS σ m F (lckS P N t l ch k n).2 b G) := by
  refine le_X3_useLock en (d + 2) m _ _ _ _ _ ?_
  unfold lckS
  by_cases k5 : k = 5
  · subst k5
    have e1 : upd N (40 + l) (nI t) (44 + l) = N (44 + l) := pk_un (by omega)
    have e2 : upd (upd N (40 + l) (nI t)) (44 + l) (N (44 + l) + 1) (228 + l) = N (228 + l) := by rw [pk_un (by omega), pk_un (by omega)]
    simp (disch := omega) only [xb_lm hB, gdT, mS_m, hk, n_eq, not_true, if_false, if_true, n_al, n_in, n_cl, mS_n, nm_eq, mS_wn, e1, e2, x_learn hB ht, bV_some]
    by_cases h : 9 ≤ N (44 + l)
    · rw [if_pos h, if_neg (Int32.not_lt.mpr h)]
    · rw [if_neg h, if_pos (Int32.not_le.mp h)]
  · simp (disch := omega) only [xb_lm hB, gdT, mS_m, hk, n_eq, k5, not_false_eq_true, if_true, if_false, n_al, n_in, n_cl, mS_n]
    by_cases h : N (40 + l) = nI t
    · simp only [h, not_true, if_false, if_true]
      by_cases k6 : k = 6
      · subst k6
        simp (disch := omega) only [not_true, if_false, if_true, nm_eq, mS_wn, x_lev hB ht hl, bV_some]
      · simp only [k6, not_false_eq_true, if_true, if_false]
        by_cases k7 : k = 7
        · subst k7
          simp (disch := omega) only [not_true, if_false, if_true, nm_eq, mS_wn, x_lev hB ht hl, bV_some, n_al, n_in, n_cl, gdT, Nat.zero_add]
        · simp only [k7, not_false_eq_true, if_true, if_false]
          have hd : ∀ (y : Int32) (co : Option Nat), (co = none ∧ y < 0 ∨ ∃ ch, co = some ch ∧ y = nI ch ∧ ch < 100) → L_X3_useLock_181 en (d + 2) m (nI l) y (mS σ m F N b G) = some (some (.int 0), mS σ m F (wak P N l co n) b G) := by
            intro y co hy
            refine le_X3_useLock_181 en (d + 2) m _ _ _ _ ?_
            rw [gd_true (xb_lm hB), x_wak hy hB hnt hn hs, bV_some]
          by_cases k8 : k = 8
          · simp only [k8, not_true, if_false, if_true]
            exact hd _ _ (Or.inr ⟨ch, rfl, rfl, hch⟩)
          · simp only [k8, not_false_eq_true, if_true, if_false]
            exact hd _ _ (Or.inl ⟨rfl, by decide⟩)
    · simp only [h, if_false, not_false_eq_true, if_true]
end XL4

