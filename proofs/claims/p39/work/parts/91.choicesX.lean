/-! THE CLASS'S CHOICES. -/
section XC2
variable {en : pN} {d m p t c k a w i n l u ch q o nc nl nt : Nat} {v x b : Int32} {σ : qS} {P : Nat → fI} {F N G : fI}
theorem x_choices (hB : XB σ m p P) (hP : PV P nc nl nt n) (hS : SV P w nc nl nt n N) (hw : F 8 = nI w) (hw2 : w ≤ 2) (ht : t < nt) : ∃ (G' : fI) (b' : Int32), qev en (d + 5) 44 [.ref m, .int (nI t)] (mS σ m F N b G) = some (some (.int (nI (chs P w N t nt))), mS σ m F N b' G') := by
  have hP' := hP
  have hS' := hS
  obtain ⟨⟨hc0, hc8⟩, ⟨hl0, hl4⟩, ⟨ht0, ht4⟩, ⟨hn0, hn100⟩, hln, hth⟩ := hP
  obtain ⟨St, Sl, Sk, Sc, Sq, Sw⟩ := hS
  have ht' : t < 4 := by omega
  obtain ⟨q, hq, hq3⟩ := sv_q Sq ht'
  have hq0 : (N (56 + t) = 0) = (q = 0) := by rw [hq, n_eq (k := 0) (by decide) (by omega)]
  have e9 : ∀ (M : fI) (b : Int32) (G : fI), (mS σ m M N b G).1 (p + 9) = P 9 := fun M b G => xb_P hB (by decide)
  have e7 : ∀ (M : fI) (b : Int32) (G : fI), (mS σ m M N b G).1 (p + 7) = P 7 := fun M b G => xb_P hB (by decide)
  rcases St.1 t ht with ⟨z, h4, -, -⟩ | ⟨s1, ⟨i, hi, h4, h8⟩, -, -⟩ | ⟨z, ⟨i, hi, h4, h8, hk7⟩, -, -⟩ | ⟨z, h4, -, -⟩
  · refine ⟨G, b, le_X3_choices en (d + 4) m _ _ _ ?_⟩
    simp (disch := omega) only [xb_lm hB, gdT, n_al, n_in, n_cl, mS_n, h4, nm_eq, w_10, if_true]
    unfold chs
    rcases z with z | z <;> rw [z] <;> rfl
  · have hlv := hln i hi
    obtain ⟨⟨hk, hk19⟩, -, ho1, ho2, ho3, hx5, hx7⟩ := hlv
    have ei : clp (N (4 + t)) = i := by rw [h4]; exact n_cl (by omega)
    have e0 : ¬ nI i < 0 := nI_pos (by omega)
    have hcs : chs P w N t nt = chK P w N t nt i (ob P i) (kd P i) := by
      unfold chs
      rw [s1, if_neg (by decide), if_pos rfl, ei]
    rw [hcs]
    have hr := fun k h1 h2 h3 => x_room (en := en) (d := d + 1) (b := b) (G := G) (F := F) (k := k) hB hP' hS' hw hw2 ht hi h1 h2 h3
    generalize hkk : kd P i = k at *
    have h9 : ∃ v, P 9 i = v ∧ (1 ≤ k ∧ k ≤ 11 ∧ k ≠ 12 → v = nI (ob P i) ∧ ob P i < 8) := ⟨P 9 i, rfl, fun z => by
      by_cases y : k ≤ 4
      · obtain ⟨a1, a2⟩ := ho1 (by omega) y; exact ⟨a1, by omega⟩
      · by_cases y2 : k ≤ 9
        · obtain ⟨a1, a2⟩ := ho2 (by omega) y2; exact ⟨a1, by omega⟩
        · obtain ⟨a1, a2⟩ := ho3 (by omega); exact ⟨a1, by omega⟩⟩
    generalize hoo : ob P i = o at *
    obtain ⟨v, hv, hvo⟩ := h9
    -- behind the question for an empty buffer
    have go : ¬ (¬ N (56 + t) = 0 ∧ (3 ≤ k ∧ k ≤ 12 ∨ k = 2 ∧ vol P o = true)) → ∃ (G' : fI) (b' : Int32), L_X3_choices_123 en (d + 4) m (nI t) (nI i) v (nI k) (mS σ m F N b G) = some (some (.int (nI (chK P w N t nt i o k))), mS σ m F N b' G') := by
      intro hne
      unfold chK
      rw [if_neg hne]
      by_cases k24 : k = 2 ∨ k = 3 ∨ k = 4
      · obtain ⟨G', b', hG⟩ := hr k rfl (by omega) (by omega)
        rw [if_neg (show ¬ k = 1 by omega), if_pos k24]
        refine ⟨G', b', le_X3_choices_123 en (d + 4) m _ _ _ _ _ _ ?_⟩
        rw [gd_true (xb_lm hB), n_to (by omega)]
        have h224 : L_X3_choices_224 en (d + 4) m (nI t) (nI i) (nI k) (mS σ m F N b G) = some (some (.int (nI (if roS P w N t i o k = true then 1 else 0))), mS σ m F N b' G') := by
          refine le_X3_choices_224 en (d + 4) m _ _ _ _ _ ?_
          rw [gd_true (xb_lm hB), hG, bI_some]
          cases roS P w N t i o k <;> rfl
        rcases k24 with z | z | z <;> subst z <;> exact h224
      · rw [if_neg k24]
        by_cases k1 : k = 1
        · subst k1
          rw [if_pos rfl]
          obtain ⟨rfl, ho8⟩ := hvo (by omega)
          refine ⟨G, b, le_X3_choices_123 en (d + 4) m _ _ _ _ _ _ ?_⟩
          rw [gd_true (xb_lm hB), n_to (by omega)]
          refine Eq.trans swI_hit ?_
          by_cases w2 : w = 2
          · simp (disch := omega) only [mS_m, hw, n_eq, w2, not_true, if_false, gdP (xb_lp hB), xb_R hB, Nat.add_sub_cancel, nm_eq, true_and]
            rw [x_vol (P := P) (xb_lp hB) (by rw [xb_P0 hB]), bI_some]
            cases hvl : vol P o
            · obtain ⟨a, h72, a1, a9, -⟩ := sv_ce Sw w2 hc8 (ho1 (by omega) (by omega)).2
              have hview : nb (N (224 + t)) o < a := by
                rcases Sw with ⟨z, -⟩ | ⟨-, -, hv, -⟩
                · exact absurd w2 z
                · rcases hv t ht' with ⟨-, z⟩ | ⟨z, -⟩
                  · rcases z o ho8 with ⟨-, z⟩ | ⟨z, -⟩
                    · rw [h72, n_clp (by omega)] at z; exact z
                    · have := (ho1 (by omega) (by omega)).2; omega
                  · omega
              simp (disch := omega) only [bt_f, not_true, if_false, n_al, n_in, gdT, n_cl, mS_n, h72, x_viewed hB ht' ho8, bI_some, n_sub, n_clp, if_true]
            · simp [bt]
              rfl
          · simp (disch := omega) only [mS_m, hw, n_eq, w2, not_false_eq_true, if_true, false_and, if_false]
            rfl
        · rw [if_neg k1]
          by_cases k5 : k = 5
          · subst k5
            rw [if_pos rfl]
            obtain ⟨rfl, ho8⟩ := hvo (by omega)
            refine ⟨G, b, le_X3_choices_123 en (d + 4) m _ _ _ _ _ _ ?_⟩
            rw [gd_true (xb_lm hB), n_to (by omega)]
            show gd (p_inB ((40 : Int32) + nI o) 236 = true) _ = _
            simp (disch := omega) only [n_al, n_in, gdT, n_cl, mS_n]
            by_cases g : N (40 + o) < 0
            · simp only [g, if_true, true_or]; rfl
            · by_cases g2 : N (40 + o) = nI t
              · simp only [g, g2, if_false, not_true, or_true, if_true]
                split <;> rfl
              · simp only [g, g2, if_false, not_false_eq_true, if_true, or_false]; rfl
          · rw [if_neg k5]
            by_cases k8 : k = 8
            · subst k8
              rw [if_pos rfl]
              obtain ⟨rfl, ho8⟩ := hvo (by omega)
              refine ⟨G, b, le_X3_choices_123 en (d + 4) m _ _ _ _ _ _ ?_⟩
              rw [gd_true (xb_lm hB), n_to (by omega)]
              show gd (p_inB ((40 : Int32) + nI o) 236 = true) _ = _
              have hwl := @wts_le o P N nt
              have e1 : (1 : Int32) = nI 1 := rfl
              have hwt := x_wts (en := en) (d := d + 2) (l := o) (F := F) (b := b) (G := G) hB ht0 ht4 (fun u hu h2 => sv_wait (u := u) St hn100 hu h2)
              simp (disch := omega) only [n_al, n_in, gdT, n_cl, mS_n, hwt, bI_some, e1, x_maxN]
              by_cases g2 : N (40 + o) = nI t
              · simp only [g2, not_true, if_false, if_true]
              · simp only [g2, not_false_eq_true, if_true, if_false]
            · rw [if_neg k8]
              by_cases k11 : k = 11
              · subst k11
                rw [if_pos rfl]
                obtain ⟨rfl, ho8⟩ := hvo (by omega)
                have ho4 := (ho3 (by omega)).2
                refine ⟨G, b, le_X3_choices_123 en (d + 4) m _ _ _ _ _ _ ?_⟩
                rw [gd_true (xb_lm hB), n_to (by omega)]
                show gd (p_inB ((0 : Int32) + nI o) 236 = true) _ = _
                simp (disch := omega) only [n_al, n_in, gdT, n_cl, mS_n, Nat.zero_add]
                by_cases g : N o = 4
                · by_cases g2 : N (56 + o) = 0
                  · simp only [g, g2, not_true, if_false, and_self, if_true]; rfl
                  · simp only [g, g2, not_true, if_false, not_false_eq_true, if_true, and_false]; rfl
                · simp only [g, not_false_eq_true, if_true, false_and, if_false]; rfl
              · rw [if_neg k11]
                refine ⟨G, b, le_X3_choices_123 en (d + 4) m _ _ _ _ _ _ ?_⟩
                rw [gd_true (xb_lm hB), n_to (by omega)]
                by_cases k12 : k < 12
                · rcases (show k = 0 ∨ k = 6 ∨ k = 7 ∨ k = 9 ∨ k = 10 by omega) with z | z | z | z | z <;> subst z <;> rfl
                · exact swI_far _ k 1 (Or.inr (by simp only [List.length_cons, List.length_nil]; omega))
    have h56 : ∃ (G' : fI) (b' : Int32), L_X3_choices_56 en (d + 4) m (nI t) (nI i) v (bt (decide (¬ q = 0))) (mS σ m F N b G) = some (some (.int (nI (chK P w N t nt i o k))), mS σ m F N b' G') := by
      have n3 : ¬ ((1 : Int32) = 3) := by decide
      have hnee := x_needs (en := en) (d := d + 2) (v := v) (o := o) (F := F) (N := N) (b := b) (G := G) hB hk19 (fun z => by rw [← hv]; exact (ho1 (by omega) (by omega)).1)
      by_cases hne : ¬ N (56 + t) = 0 ∧ (3 ≤ k ∧ k ≤ 12 ∨ k = 2 ∧ vol P o = true)
      · refine ⟨G, b, le_X3_choices_56 en (d + 4) m _ _ _ _ _ _ ?_⟩
        have hq1 : ¬ q = 0 := by rw [← hq0]; exact hne.1
        have hnd : (3 ≤ k ∧ k ≤ 12 ∨ k = 2 ∧ vol P o = true) = True := eq_true hne.2
        have ek : chK P w N t nt i o k = 0 := by unfold chK; rw [if_pos hne]
        simp (disch := omega) only [xb_lm hB, gdT, n_al, n_in, n_cl, mS_n, Nat.zero_add, s1, n3, not_false_eq_true, if_true, gdP (xb_lp hB), xb_R hB, Nat.add_sub_cancel, nm_eq, e7, hk, bt_0, hq1, decide_true, Bool.true_eq_false, if_false, hnee, bI_some, hnd, ek]
        rfl
      · obtain ⟨G', b', hG⟩ := go hne
        refine ⟨G', b', le_X3_choices_56 en (d + 4) m _ _ _ _ _ _ ?_⟩
        by_cases hq1 : q = 0
        · simp (disch := omega) only [xb_lm hB, gdT, n_al, n_in, n_cl, mS_n, Nat.zero_add, s1, n3, not_false_eq_true, if_true, gdP (xb_lp hB), xb_R hB, Nat.add_sub_cancel, nm_eq, e7, hk, bt_0, hq1, decide_false, not_true, hG]
        · have hnd : (3 ≤ k ∧ k ≤ 12 ∨ k = 2 ∧ vol P o = true) = False := eq_false fun z => hne ⟨by rw [hq0]; exact hq1, z⟩
          simp (disch := omega) only [xb_lm hB, gdT, n_al, n_in, n_cl, mS_n, Nat.zero_add, s1, n3, not_false_eq_true, if_true, gdP (xb_lp hB), xb_R hB, Nat.add_sub_cancel, nm_eq, e7, hk, bt_0, hq1, decide_true, Bool.true_eq_false, if_false, hnee, bI_some, hnd, decide_false, hG]
    obtain ⟨G', b', hG⟩ := h56
    refine ⟨G', b', le_X3_choices en (d + 4) m _ _ _ ?_⟩
    have n2 : ¬ ((1 : Int32) = 2) := by decide
    simp (disch := omega) only [xb_lm hB, gdT, n_al, n_in, n_cl, mS_n, h4, nm_eq, e0, if_false, Nat.zero_add, s1, n2, not_false_eq_true, if_true, gdP (xb_lp hB), xb_R hB, Nat.add_sub_cancel, e9, hv, hq, n_ge]
    by_cases hq1 : q = 0
    · rw [if_pos (by omega)]
      rw [decide_eq_false (not_not_intro hq1)] at hG
      exact hG
    · rw [if_neg (by omega)]
      rw [decide_eq_true hq1] at hG
      exact hG
  · have e0 : ¬ nI i < 0 := nI_pos (by omega)
    have ei : clp (N (4 + t)) = i := by rw [h4]; exact n_cl (by omega)
    rcases z with s2 | s3
    · refine ⟨G, b, le_X3_choices en (d + 4) m _ _ _ ?_⟩
      have n2 : ¬ ¬ ((2 : Int32) = 2) := by decide
      simp (disch := omega) only [xb_lm hB, gdT, n_al, n_in, n_cl, mS_n, h4, nm_eq, e0, if_false, Nat.zero_add, s2, n2]
      unfold chs
      rw [s2]; rfl
    · obtain ⟨-, -, -, ho2, -⟩ := hln i hi
      obtain ⟨ho, hol⟩ := ho2 (by omega) (by omega)
      refine ⟨G, b, le_X3_choices en (d + 4) m _ _ _ ?_⟩
      have n2 : ¬ ((3 : Int32) = 2) := by decide
      have h56 : L_X3_choices_56 en (d + 4) m (nI t) (nI i) (nI (ob P i)) (bt (decide (¬ q = 0))) (mS σ m F N b G) = some (some (.int (nI (chs P w N t nt))), mS σ m F N b G) := by
        refine le_X3_choices_56 en (d + 4) m _ _ _ _ _ _ ?_
        have n3 : ¬ ¬ ((3 : Int32) = 3) := by decide
        simp (disch := omega) only [xb_lm hB, gdT, n_al, n_in, n_cl, mS_n, Nat.zero_add, s3, n3, if_false, bt_0]
        unfold chs
        rw [if_pos s3, ei]
        by_cases g : N (40 + ob P i) < 0
        · rw [if_neg (Int32.not_le.mpr g)]
          by_cases g2 : q = 0
          · have e : (N (40 + ob P i) < 0 ∧ N (56 + t) = 0) = True := eq_true ⟨g, by rw [hq0]; exact g2⟩
            simp only [e, if_true, g2, not_true, decide_false, if_false]; rfl
          · have e : (N (40 + ob P i) < 0 ∧ N (56 + t) = 0) = False := eq_false fun z => g2 (by rw [← hq0]; exact z.2)
            simp only [e, if_false, g2, not_false_eq_true, decide_true, Bool.true_eq_false, if_true]; rfl
        · rw [if_pos (Int32.not_lt.mp g)]
          have e : (N (40 + ob P i) < 0 ∧ N (56 + t) = 0) = False := eq_false fun z => g z.1
          simp only [e, if_false]; rfl
      simp (disch := omega) only [xb_lm hB, gdT, n_al, n_in, n_cl, mS_n, h4, nm_eq, e0, if_false, Nat.zero_add, s3, n2, not_false_eq_true, if_true, gdP (xb_lp hB), xb_R hB, Nat.add_sub_cancel, e9, ho, hq, n_ge]
      by_cases hq1 : q = 0
      · rw [if_pos (by omega)]
        rw [decide_eq_false (not_not_intro hq1)] at h56
        exact h56
      · rw [if_neg (by omega)]
        rw [decide_eq_true hq1] at h56
        exact h56
  · refine ⟨G, b, le_X3_choices en (d + 4) m _ _ _ ?_⟩
    simp (disch := omega) only [xb_lm hB, gdT, n_al, n_in, n_cl, mS_n, h4, nm_eq, w_10, if_true]
    unfold chs
    rw [z]; rfl
end XC2

