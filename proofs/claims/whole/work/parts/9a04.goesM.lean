/-! THE MODEL'S STEP. -/
/-- the orders that a step shows -/
def ordS (P : Nat → fI) (N : fI) (t ch nl : Nat) (x : Int32) : Int32 := if ch = 9 then x else if laS P N t = -1 then x else if N (40 + clp (laS P N t)) = nI t then x else oB N t (clp (laS P N t)) nl x
section MD
variable {en : pN} {d t i n top k K w e a c l u ch nc nl nt vv j m p : Nat} {v x z : Int32} {q : Nat} {σ : qS} {F s y g N : fI} {P : Nat → fI} {D : Int64}
/-- the thread goes on -/
theorem m_577 (hL : lnM σ vv P nt i) (hk : P 7 i = nI k) (hk19 : k < 19) (hv : vv ≤ 3) (hi : i < 100) (ht : t < 4) (hR : MR w N s) (h68 : F 68 = nI i) {M0 : fI} (hx : v = exr (exv P 5 M0 i)) : ∃ s' : fI, L_X12_doStep_577 en (d + 1) (nI t) (nI (100 * vv + i)) v (mM σ F s y g D) = some (none, mM σ F s' y g D) ∧ MR w (if N t = 1 then gto N t (tgtS P M0 i k) else N) s' := by
  obtain ⟨e164, e166, e167, f17, f18, fo, -, -, -, tg⟩ := hL
  have hkd : kd P i = k := by show clp (P 7 i) = k; rw [hk]; exact n_clp (by omega)
  rw [hkd] at f17 f18 fo
  rw [hk] at e164
  have o164 : (mM σ F s y g D).1 164 = σ.1 164 := mM_o (by decide) (by decide) (by decide) (by decide)
  have o172 : (mM σ F s y g D).1 172 = σ.1 172 := mM_o (by decide) (by decide) (by decide) (by decide)
  have o173 : (mM σ F s y g D).1 173 = σ.1 173 := mM_o (by decide) (by decide) (by decide) (by decide)
  have o174 : (mM σ F s y g D).1 174 = σ.1 174 := mM_o (by decide) (by decide) (by decide) (by decide)
  have est := mr_st hR ht
  by_cases h1 : N t = 1
  · rw [if_pos h1]
    have gt : ∀ x : Int32, (x = -2 ∨ ∃ j, x = nI j ∧ j < 100) → uv x = tgtS P M0 i k → ∃ s' : fI, qev en (d + 1) 302 [.ref 151, .int (nI t), .int x] (mM σ F s y g D) = some (none, mM σ F s' y g D) ∧ MR w (gto N t (tgtS P M0 i k)) s' := by
      intro x hx1 hx2
      obtain ⟨s', a1, a2⟩ := m_goTo (en := en) (d := d) (σ := σ) (F := F) (y := y) (g := g) (D := D) hR ht h1 hx1
      rw [hx2] at a2
      exact ⟨s', a1, a2⟩
    have ht2 := tg 172 (Or.inl rfl)
    have ht3 := tg 173 (Or.inr (Or.inl rfl))
    have ht4 := tg 174 (Or.inr (Or.inr rfl))
    unfold tgtS at gt ⊢
    by_cases k13 : k = 13
    · rw [if_pos k13] at gt ⊢
      obtain ⟨s', a1, a2⟩ := gt (-2) (Or.inl rfl) rfl
      refine ⟨s', le_X12_doStep_577 en (d + 1) _ _ _ _ _ ?_, a2⟩
      simp (disch := omega) only [n_al, n_in, gdT, n_cl, mM_s, Nat.zero_add, est, h1, if_true, o164, e164, n_eq, k13, not_true, if_false, a1, bV_some]
    · rw [if_neg k13] at gt ⊢
      by_cases k17 : k = 17
      · obtain ⟨p23, p22⟩ := f17 k17
        by_cases hv0 : v = 0
        · rw [if_neg (fun z => z.2 (by rw [← hx]; exact hv0))] at gt ⊢
          rw [p23] at gt ⊢
          obtain ⟨s', a1, a2⟩ := gt (if σ.1 173 (100 * vv + i) = -2 then σ.1 174 (100 * vv + i) else σ.1 173 (100 * vv + i)) (by split; exact ht4; exact ht3) rfl
          refine ⟨s', le_X12_doStep_577 en (d + 1) _ _ _ _ _ ?_, a2⟩
          simp (disch := omega) only [n_al, n_in, gdT, n_cl, mM_s, Nat.zero_add, est, h1, if_true, o164, e164, n_eq, k17, Nat.reduceEqDiff, not_false_eq_true, not_true, if_false, hv0, o173]
          refine le_X12_doStep_642 en (d + 1) _ _ _ _ _ ?_
          by_cases hz : σ.1 173 (100 * vv + i) = -2
          · rw [if_pos hz] at a1
            simp (disch := omega) only [hz, not_true, if_false, n_in, gdT, n_cl, o174]
            refine le_X12_doStep_664 en (d + 1) _ _ _ _ ?_
            rw [a1, bV_some]
          · rw [if_neg hz] at a1
            rw [if_pos hz]
            refine le_X12_doStep_664 en (d + 1) _ _ _ _ ?_
            rw [a1, bV_some]
        · rw [if_pos ⟨Or.inl k17, by rw [← hx]; exact hv0⟩] at gt ⊢
          rw [p22] at gt ⊢
          obtain ⟨s', a1, a2⟩ := gt (if σ.1 172 (100 * vv + i) = -2 then σ.1 174 (100 * vv + i) else σ.1 172 (100 * vv + i)) (by split; exact ht4; exact ht2) rfl
          refine ⟨s', le_X12_doStep_577 en (d + 1) _ _ _ _ _ ?_, a2⟩
          simp (disch := omega) only [n_al, n_in, gdT, n_cl, mM_s, Nat.zero_add, est, h1, if_true, o164, e164, n_eq, k17, Nat.reduceEqDiff, not_false_eq_true, not_true, if_false, hv0, o172]
          refine le_X12_doStep_642 en (d + 1) _ _ _ _ _ ?_
          by_cases hz : σ.1 172 (100 * vv + i) = -2
          · rw [if_pos hz] at a1
            simp (disch := omega) only [hz, not_true, if_false, n_in, gdT, n_cl, o174]
            refine le_X12_doStep_664 en (d + 1) _ _ _ _ ?_
            rw [a1, bV_some]
          · rw [if_neg hz] at a1
            rw [if_pos hz]
            refine le_X12_doStep_664 en (d + 1) _ _ _ _ ?_
            rw [a1, bV_some]
      · have p23 := fo k17
        by_cases k18 : k = 18
        · have p22 := f18 k18
          by_cases hv0 : v = 0
          · rw [if_neg (fun z => z.2 (by rw [← hx]; exact hv0))] at gt ⊢
            rw [p23] at gt ⊢
            obtain ⟨s', a1, a2⟩ := gt _ ht4 rfl
            refine ⟨s', le_X12_doStep_577 en (d + 1) _ _ _ _ _ ?_, a2⟩
            simp (disch := omega) only [n_al, n_in, gdT, n_cl, mM_s, Nat.zero_add, est, h1, if_true, o164, e164, n_eq, k18, Nat.reduceEqDiff, not_false_eq_true, not_true, if_false, hv0, o174]
            refine le_X12_doStep_721 en (d + 1) _ _ _ _ ?_
            rw [a1, bV_some]
          · rw [if_pos ⟨Or.inr k18, by rw [← hx]; exact hv0⟩] at gt ⊢
            rw [p22] at gt ⊢
            by_cases hz : σ.1 172 (100 * vv + i) = -2
            · rw [if_pos hz] at gt ⊢
              obtain ⟨s', a1, a2⟩ := gt (nI i) (Or.inr ⟨i, rfl, hi⟩) (by unfold uv; rw [if_neg (by rw [n_m2 (by omega)]; exact fun z => z)])
              refine ⟨s', le_X12_doStep_577 en (d + 1) _ _ _ _ _ ?_, a2⟩
              simp (disch := omega) only [n_al, n_in, gdT, n_cl, mM_s, Nat.zero_add, est, h1, if_true, o164, e164, n_eq, k18, Nat.reduceEqDiff, not_false_eq_true, not_true, if_false, hv0, o172, hz, mM_F, h68]
              refine le_X12_doStep_721 en (d + 1) _ _ _ _ ?_
              rw [a1, bV_some]
            · rw [if_neg hz] at gt ⊢
              obtain ⟨s', a1, a2⟩ := gt _ ht2 (by unfold uv; rw [if_neg hz])
              refine ⟨s', le_X12_doStep_577 en (d + 1) _ _ _ _ _ ?_, a2⟩
              simp (disch := omega) only [n_al, n_in, gdT, n_cl, mM_s, Nat.zero_add, est, h1, if_true, o164, e164, n_eq, k18, Nat.reduceEqDiff, not_false_eq_true, not_true, if_false, hv0, o172, hz]
              refine le_X12_doStep_721 en (d + 1) _ _ _ _ ?_
              rw [a1, bV_some]
        · rw [if_neg (fun z => z.1.elim k17 k18)] at gt ⊢
          rw [p23] at gt ⊢
          obtain ⟨s', a1, a2⟩ := gt _ ht4 rfl
          refine ⟨s', le_X12_doStep_577 en (d + 1) _ _ _ _ _ ?_, a2⟩
          simp (disch := omega) only [n_al, n_in, gdT, n_cl, mM_s, Nat.zero_add, est, h1, if_true, o164, e164, n_eq, k13, k17, k18, not_false_eq_true, o174, a1, bV_some]
  · rw [if_neg h1]
    refine ⟨s, le_X12_doStep_577 en (d + 1) _ _ _ _ _ ?_, hR⟩
    simp (disch := omega) only [n_al, n_in, gdT, n_cl, mM_s, Nat.zero_add, est, h1, if_false]
end MD
