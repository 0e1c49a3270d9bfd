/-! ALL TURNS, the model's side: the quiet thread; how an end ends. -/
section MQ
variable {en : pN} {d w nc nl nt n vv t k : Nat} {σ : qS} {P : Nat → fI} {F s y g N : fI} {D : Int64} {τ : qS}
theorem m_isQuiet (hk : k < 100) : qev en (d + 1) 362 [.int (nI k)] τ = some (some (.int (bt (decide (k = 0 ∨ (13 ≤ k ∧ k ≤ 17))))), τ) := by
  have ne : ∀ c, c < 100 → k ≠ c → ¬ nI k = nI c := fun c hc h => by rw [n_EQ (by omega) (by omega)]; exact h
  refine le_X12_isQuiet en d _ _ _ ?_
  by_cases q : k = 0
  · subst q; rw [if_pos (show nI 0 = (0 : Int32) from rfl)]; rfl
  rw [if_neg (show ¬ nI k = (0 : Int32) from ne 0 (by decide) q)]
  by_cases q1 : k = 17
  · subst q1; rw [if_pos (show nI 17 = (17 : Int32) from rfl)]; rfl
  rw [if_neg (show ¬ nI k = (17 : Int32) from ne 17 (by decide) q1)]
  by_cases q2 : k = 14
  · subst q2; rw [if_pos (show nI 14 = (14 : Int32) from rfl)]; rfl
  rw [if_neg (show ¬ nI k = (14 : Int32) from ne 14 (by decide) q2)]
  by_cases q3 : k = 15
  · subst q3; rw [if_pos (show nI 15 = (15 : Int32) from rfl)]; rfl
  rw [if_neg (show ¬ nI k = (15 : Int32) from ne 15 (by decide) q3)]
  by_cases q4 : k = 16
  · subst q4; rw [if_pos (show nI 16 = (16 : Int32) from rfl)]; rfl
  rw [if_neg (show ¬ nI k = (16 : Int32) from ne 16 (by decide) q4)]
  by_cases q5 : k = 13
  · subst q5; rw [if_neg (show ¬ ¬ nI 13 = (13 : Int32) from fun z => z rfl)]; rfl
  rw [if_pos (show ¬ nI k = (13 : Int32) from ne 13 (by decide) q5), decide_eq_false (by omega)]
  rfl
theorem m_quiet (hB : MB σ vv P nc nl nt n) (hP : PV P nc nl nt n) (hS : SV P w nc nl nt n N) (hF : MF F w vv nc nl nt) (hR : MR w N s) : qev en (d + 2) 363 [.ref 151] (mM σ F s y g D) = some (some (.int (match qtF P N nt 0 with
    | some a => nI (a / 10)
    | none => -2)), mM σ F s y g D) := by
  have ht4 := hP.2.2.1.2
  have hn := hP.2.2.2.1.2
  have hvv := hB.1
  have hwd := wid_ge (w := w)
  have e18 : (mM σ F s y g D).1 151 18 = nI nt := hF.2.2.1
  have loop : ∀ (m t : Nat), t + m = nt → L_X12_quietThread_2 en (d + 1) (nI t) (mM σ F s y g D) = some (some (.int (match qtF P N m t with
      | some a => nI (a / 10)
      | none => -2)), mM σ F s y g D) := by
    intro m
    induction m with
    | zero =>
      intro t ht
      obtain rfl : t = nt := by omega
      refine le_X12_quietThread_2 en _ _ _ _ ?_
      rw [e18, if_pos (Int32.le_refl _)]
      rfl
    | succ m ih =>
      intro t ht
      refine le_X12_quietThread_2 en _ _ _ _ ?_
      have el : qtF P N (m + 1) t = if N t = 1 ∧ (kd P (clp (N (4 + t))) = 0 ∨ (13 ≤ kd P (clp (N (4 + t))) ∧ kd P (clp (N (4 + t))) ≤ 17)) then some (10 * t) else qtF P N m (t + 1) := rfl
      have es : (mM σ F s y g D).1 187 t = N t := by
        show s t = _
        rw [hR t (by omega)]
        exact if_pos (by omega)
      rw [e18, if_neg (by rw [n_LE (by omega) (by omega)]; omega), Int32.zero_add, gd_true (n_in (by omega) (by decide)), n_cl (by omega), es]
      by_cases h1 : N t = 1
      · obtain ⟨⟨i, hi, h4, h8⟩, -⟩ := sv_run (hS.1.1 t (by omega)) h1
        have ei : clp (N (4 + t)) = i := by rw [h4]; exact n_clp (by omega)
        have hL := hP.2.2.2.2.1 i hi
        obtain ⟨⟨hk, hk19⟩, -⟩ := hL
        have e164 : (mM σ F s y g D).1 164 (100 * vv + i) = P 7 i := by
          rw [mM_o (by decide) (by decide) (by decide) (by decide)]
          exact (hB.2.1 i hi).1
        rw [if_neg (fun z => z h1), m_line (d := d) hF hR (by omega) hvv h4 (by omega), bI_some, gd_true (n_in (by omega) (by decide)), n_cl (by omega), e164, hk, m_isQuiet (by omega), bI_some, el, ei]
        by_cases q : kd P i = 0 ∨ (13 ≤ kd P i ∧ kd P i ≤ 17)
        · rw [decide_eq_true q, if_neg (by decide), if_pos ⟨h1, q⟩]
          dsimp only
          rw [show 10 * t / 10 = t by omega]
        · rw [decide_eq_false q, if_pos (by decide), if_neg (fun z => q z.2), n_ar]
          exact ih (t + 1) (by omega)
      · rw [if_pos h1, el, if_neg (fun z => h1 z.1), n_ar]
        exact ih (t + 1) (by omega)
  exact le_X12_quietThread en _ _ _ (loop nt 0 (by omega))
theorem m_sortOf (hF : MF F w vv nc nl nt) (hR : MR w N s) (ht4 : nt ≤ 4) : qev en (d + 1) 359 [.ref 151] (mM σ F s y g D) = some (some (.int (nI (soS N nt))), mM σ F s y g D) := by
  have e18 : (mM σ F s y g D).1 151 18 = nI nt := hF.2.2.1
  have hwd := wid_ge (w := w)
  -- a stuck one seen: the sort is 2
  have two : ∀ (m t : Nat), t + m = nt → L_X12_sortOfEnd_6 en d 0 1 (nI t) (mM σ F s y g D) = some (some (.int 2), mM σ F s y g D) := by
    intro m
    induction m with
    | zero =>
      intro t ht
      obtain rfl : t = nt := by omega
      refine le_X12_sortOfEnd_6 en _ _ _ _ _ _ ?_
      rw [e18, if_pos (Int32.le_refl _), if_pos rfl, if_neg (by decide)]
    | succ m ih =>
      intro t ht
      refine le_X12_sortOfEnd_6 en _ _ _ _ _ _ ?_
      rw [e18, if_neg (by rw [n_LE (by omega) (by omega)]; omega), if_pos rfl]
      refine le_X12_sortOfEnd_46 en _ _ _ _ _ _ ?_
      rw [if_pos (by decide), n_ar]
      exact ih (t + 1) (by omega)
  have loop : ∀ (m t : Nat) (all : Bool), t + m = nt → L_X12_sortOfEnd_6 en d (bt all) 0 (nI t) (mM σ F s y g D) = some (some (.int (nI (soF N m t all))), mM σ F s y g D) := by
    intro m
    induction m with
    | zero =>
      intro t all ht
      obtain rfl : t = nt := by omega
      refine le_X12_sortOfEnd_6 en _ _ _ _ _ _ ?_
      rw [e18, if_pos (Int32.le_refl _)]
      cases all with
      | false => rw [if_pos (by decide), if_pos rfl]; rfl
      | true => rw [if_neg (by decide)]; rfl
    | succ m ih =>
      intro t all ht
      have es : (mM σ F s y g D).1 187 t = N t := by
        show s t = _
        rw [hR t (by omega)]
        exact if_pos (by omega)
      have el : soF N (m + 1) t all = if N t = 5 then 2 else soF N m (t + 1) (all && (decide (N t = 0) || decide (N t = 4))) := rfl
      have l46 : ∀ v : Bool, (N t = 5 → v = false) → v = (all && (decide (N t = 0) || decide (N t = 4))) → L_X12_sortOfEnd_46 en d 0 (nI t) (bt v) (mM σ F s y g D) = some (some (.int (nI (soF N (m + 1) t all))), mM σ F s y g D) := by
        intro v h5 hv
        refine le_X12_sortOfEnd_46 en _ _ _ _ _ _ ?_
        rw [if_neg (fun z => z rfl), Int32.zero_add, gd_true (n_in (by omega) (by decide)), n_cl (by omega), es, el, n_ar]
        by_cases q : N t = 5
        · rw [if_neg (fun z => z q), if_pos q, h5 q]
          exact two m (t + 1) (by omega)
        · rw [if_pos q, if_neg q, ← hv]
          exact ih (t + 1) v (by omega)
      refine le_X12_sortOfEnd_6 en _ _ _ _ _ _ ?_
      rw [e18, if_neg (by rw [n_LE (by omega) (by omega)]; omega)]
      cases all with
      | false => rw [if_pos (by decide)]; exact l46 false (fun _ => rfl) rfl
      | true =>
        rw [if_neg (by decide), Int32.zero_add, gd_true (n_in (by omega) (by decide)), n_cl (by omega), es]
        by_cases q4 : N t = 4
        · rw [if_pos q4]
          exact l46 true (fun z => by rw [q4] at z; exact absurd z (by decide)) (by rw [decide_eq_true q4]; simp)
        · rw [if_neg q4]
          by_cases q0 : N t = 0
          · rw [if_neg (fun z => z q0)]
            exact l46 true (fun z => by rw [q0] at z; exact absurd z (by decide)) (by rw [decide_eq_true q0]; simp)
          · rw [if_pos q0]
            exact l46 false (fun _ => rfl) (by rw [decide_eq_false q0, decide_eq_false q4]; rfl)
  exact le_X12_sortOfEnd en _ _ _ (loop nt 0 true (by omega))
end MQ
