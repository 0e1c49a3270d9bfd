section XT2
variable {en : pN} {d m p t c k a w i n l u ch q o nc nl nt : Nat} {v x b : Int32} {σ : qS} {P : Nat → fI} {F N G : fI}
theorem sv_wait (h : SVt P nt n N) (hn : n ≤ 100) (hu : u < nt) (h2 : N u = 2) : ∃ i, N (4 + u) = nI i ∧ i < 100 := by
  rcases h.1 u hu with ⟨z, -⟩ | ⟨z, -⟩ | ⟨-, ⟨i, a1, a2, -⟩, -⟩ | ⟨z, -⟩
  · rcases z with z | z <;> rw [h2] at z <;> exact absurd z (by decide)
  · rw [h2] at z; exact absurd z (by decide)
  · exact ⟨i, a2, by omega⟩
  · rw [h2] at z; exact absurd z (by decide)
theorem sv_run (h : thV P n N t) (h2 : N t = 1) : (∃ i, i < n ∧ N (4 + t) = nI i ∧ P 8 i = nI t) ∧ N (8 + t) = 0 ∧ N (12 + t) = 0 := by
  rcases h with ⟨z, -⟩ | ⟨z, a⟩ | ⟨z, -⟩ | ⟨z, -⟩
  · rcases z with z | z <;> rw [h2] at z <;> exact absurd z (by decide)
  · exact a
  · rcases z with z | z <;> rw [h2] at z <;> exact absurd z (by decide)
  · rw [h2] at z; exact absurd z (by decide)
theorem sv_wok (h : thV P n N t) (h2 : N t = 3) : (∃ i, i < n ∧ N (4 + t) = nI i ∧ P 8 i = nI t ∧ kd P i = 7) ∧ N (8 + t) = 0 ∧ ∃ q, N (12 + t) = nI q ∧ 1 ≤ q ∧ q ≤ 9 := by
  rcases h with ⟨z, -⟩ | ⟨z, -⟩ | ⟨z, a⟩ | ⟨z, -⟩
  · rcases z with z | z <;> rw [h2] at z <;> exact absurd z (by decide)
  · rw [h2] at z; exact absurd z (by decide)
  · exact a
  · rw [h2] at z; exact absurd z (by decide)
theorem sv_q (h : SVq P w nc nt N) (ht : t < 4) : ∃ q, N (56 + t) = nI q ∧ q ≤ 3 := by
  rcases h t ht with ⟨-, -, q, a, b, -⟩ | ⟨-, a, -⟩
  · exact ⟨q, a, b⟩
  · exact ⟨0, a, by decide⟩
theorem sv_ce (h : SVw w nc nl nt N) (hw : w = 2) (hc8 : nc ≤ 8) (hc : c < nc) : ceV nc N c := by
  rcases h with ⟨z, -⟩ | ⟨-, h, -⟩
  · exact absurd hw z
  · rcases h c (by omega) with ⟨-, a⟩ | ⟨z, -⟩
    · exact a
    · omega
theorem ln_of (h : lnV P nc nl nt n i) (h6 : ∀ t, t < nt → lct P t ≤ 6) : P 10 i = -2 ∨ ∃ k, P 10 i = nI k ∧ k < 6 := by
  obtain ⟨-, ⟨t, ht, -, -, -, hl⟩, -⟩ := h
  rcases hl with z | ⟨k, z, hk⟩
  · exact Or.inl z
  · exact Or.inr ⟨k, z, by have := h6 t ht; omega⟩
theorem ro_1 (h : roS P 1 N t i o k = true) : clp (N (56 + t)) < 3 := by
  unfold roS at h
  rw [if_pos rfl] at h
  exact of_decide_eq_true h
theorem ro_2 (h : roS P 2 N t i o k = true) (hk : k ≠ 3) : clp (N (72 + o)) < 9 := by
  unfold roS at h
  rw [if_neg (by decide), if_neg (by decide)] at h
  by_cases g : clp (N (72 + o)) < 9
  · exact g
  · rw [if_neg g, if_neg hk] at h
    cases h
theorem ro_3 (h : roS P 2 N t i o 3 = true) (g : ¬ clp (N (72 + o)) < 9) (h7 : exv P 7 N i ≠ none) (y : Int32) (h5 : exv P 5 N i = some y) : N (48 + o) ≠ y := by
  unfold roS at h
  rw [if_neg (by decide), if_neg (by decide), if_neg g, if_pos rfl, h5] at h
  cases h7' : exv P 7 N i with
  | none => exact absurd h7' h7
  | some z =>
    rw [h7'] at h
    exact of_decide_eq_true h
theorem ch_le (hP : PV P nc nl nt n) (hS : SV P w nc nl nt n N) (ht : t < nt) : chs P w N t nt ≤ 9 := by
  obtain ⟨⟨hc0, hc8⟩, -, ⟨ht0, ht4⟩, ⟨-, hn100⟩, hln, -⟩ := hP
  obtain ⟨St, -, -, -, -, Sw⟩ := hS
  unfold chs
  split
  · split <;> omega
  · split
    · rename_i s1
      obtain ⟨⟨i, hi, h4, h8⟩, -, -⟩ := sv_run (St.1 t ht) s1
      have ei : clp (N (4 + t)) = i := by rw [h4]; exact n_cl (by omega)
      rw [ei]
      obtain ⟨-, -, ho1, -⟩ := hln i hi
      unfold chK
      split
      · omega
      · split
        · rename_i k1
          obtain ⟨-, hoc⟩ := ho1 (by omega) (by omega)
          split
          · rename_i z
            obtain ⟨a, h72, -, ha9, -⟩ := sv_ce Sw z.1 hc8 hoc
            have : clp (N (72 + ob P i)) = a := by rw [h72]; exact n_cl (by omega)
            omega
          · omega
        · split
          · split <;> omega
          · split
            · split <;> omega
            · split
              · have := @wts_le (ob P i) P N nt
                split <;> omega
              · split
                · split <;> omega
                · omega
    · omega
theorem x_take (hB : XB σ m p P) (hP : PV P nc nl nt n) (hS : SV P w nc nl nt n N) (hw : F 8 = nI w) (hw2 : w ≤ 2) (hr : rdS P w N t ch nt) (hch : ch < 10) : ∃ (F' G' : fI) (b' : Int32), qev en (d + 6) 52 [.ref m, .int (nI t), .int (nI ch)] (mS σ m F N b G) = some (none, mS σ m F' (stp P w N t ch nt) b' G') ∧ (∀ j, j ≠ 9 → j ≠ 10 → j ≠ 11 → j ≠ 12 → F' j = F j) ∧ F' 9 = lnA P N t ch ∧ F' 10 = acA P w N t ch nt ∧ (acA P w N t ch nt = 15 ∨ acA P w N t ch nt = 16 → F' 11 = exr (exv P 5 N (clp (N (4 + t))))) := by
  obtain ⟨htn, hr⟩ := hr
  have hle := ch_le hP hS htn
  obtain ⟨⟨hc0, hc8⟩, ⟨hl0, hl4⟩, ⟨ht0, ht4⟩, ⟨hn0, hn100⟩, hln, hth⟩ := hP
  obtain ⟨St, Sl, Sk, Sc, Sq, Sw⟩ := hS
  have ht : t < 4 := by omega
  by_cases h9 : ch = 9
  · subst h9
    have hq : ¬ N (56 + t) = 0 := by
      rcases hr with z | ⟨-, z⟩
      · omega
      · exact z
    rcases Sq t ht with ⟨w1, -, q, hq0, hq3, hqe⟩ | ⟨-, z, -⟩
    · have q1 : 1 ≤ q := by
        rcases Nat.eq_zero_or_pos q with z | z
        · subst z; exact absurd hq0 hq
        · exact z
      rcases hqe 0 (by decide) with ⟨-, c, v, hcn, hvol, hv, he⟩ | ⟨z, -⟩
      · have he : N (60 + t * 3) = pkq v c := he
        have a1 := pkq_and (v := v) (show c < 8 by omega)
        have a2 := pkq_shr (show c < 8 by omega) hv
        refine ⟨upd (upd (upd F 11 0) 9 (-2)) 10 20, G, b, le_X3_take en (d + 5) m _ _ _ _ ?_, ?_, ?_, ?_, ?_⟩
        · have e9 : ¬ ¬ nI 9 = (9 : Int32) := not_not_intro rfl
          simp (disch := omega) only [xb_lm hB, gdT, nm_eq, mS_wm, e9, if_false]
          rw [x_flush (c := c) (v := v) (q := q) hB ht (by omega) (by rw [he]; exact a1) (by rw [he]; exact a2) hq0 q1 hq3, bV_some]
          unfold stp
          have hcl : clp (nI c) = c := n_cl (by omega)
          rw [if_pos rfl, he, a1, a2, hcl]
        · intro j b1 b2 b3 b4; rw [pk_un b2, pk_un b1, pk_un b3]
        · rw [pk_un (by decide), pk_us]; rfl
        · rw [pk_us]; rfl
        · intro z
          rcases z with z | z <;> exact absurd (show (20 : Int32) = _ from z) (by decide)
      · omega
    · exact absurd z hq
  · have hr : ch < chs P w N t nt := hr.resolve_right (fun z => h9 z.1)
    have e9 : ¬ nI ch = (9 : Int32) := by rw [n_eq (by decide) (by omega)]; exact h9
    have hs : ∀ u, u < nt → N u = 2 → ∃ i, N (4 + u) = nI i ∧ i < 100 := fun u hu => sv_wait St hn100 hu
    have e4 : ∀ M : fI, (mS σ m M N b G).1 (m + 1) (4 + t) = N (4 + t) := fun M => by rw [mS_n]
    by_cases s3 : N t = 3
    · obtain ⟨⟨i, hi, h4, h8, hk7⟩, -, -⟩ := sv_wok (St.1 t htn) s3
      obtain ⟨⟨hk, -⟩, -, -, ho, -⟩ := hln i hi
      obtain ⟨ho, hol⟩ := ho (by omega) (by omega)
      have eT : stp P w N t ch nt = tkb N t (ob P i) (P 23 i) := by
        unfold stp
        rw [if_neg h9, if_pos s3, h4, n_clp (by omega)]
      rw [eT]
      refine ⟨upd (upd (upd (upd F 11 0) 9 (nI i)) 12 (P 23 i)) 10 19, G, b, le_X3_take en (d + 5) m _ _ _ _ ?_, ?_, ?_, ?_, ?_⟩
      · have n3 : ¬ ¬ N t = 3 := not_not_intro s3
        simp (disch := omega) only [xb_lm hB, gdT, nm_eq, mS_wm, e9, not_false_eq_true, if_true, n_al, n_in, n_cl, mS_n, h4, gdP (xb_lp hB), xb_R hB, Nat.add_sub_cancel, mS_m, pk_us, xb_P hB (show 9 < 25 by decide), xb_P hB (show 23 < 25 by decide), Nat.zero_add, n3, if_false, ho]
        rw [x_tkb (x := P 23 i) hB ht (by omega) (by rw [pk_un (by decide), pk_us]), bV_some]
      · intro j b1 b2 b3 b4; rw [pk_un b2, pk_un b4, pk_un b1, pk_un b3]
      · rw [pk_un (by decide), pk_un (by decide), pk_us]; unfold lnA; rw [if_neg h9, h4]
      · rw [pk_us]; unfold acA; rw [if_neg h9, if_pos s3]
      · intro z
        unfold acA at z
        rw [if_neg h9, if_pos s3] at z
        rcases z with z | z <;> exact absurd z (by decide)
    · have s1 : N t = 1 := by
        unfold chs at hr
        rw [if_neg s3] at hr
        by_cases z : N t = 1
        · exact z
        · rw [if_neg z] at hr; omega
      have hr : ch < chK P w N t nt (clp (N (4 + t))) (ob P (clp (N (4 + t)))) (kd P (clp (N (4 + t)))) := by
        unfold chs at hr
        rwa [if_neg s3, if_pos s1] at hr
      obtain ⟨⟨i, hi, h4, h8⟩, -, -⟩ := sv_run (St.1 t htn) s1
      have hi100 : i < 100 := by omega
      have hlv := hln i hi
      have hl6 := ln_of hlv (fun t ht => (hth t ht).2.2)
      obtain ⟨⟨hk, hk19⟩, -, ho1, ho2, ho3, hx5, hx7⟩ := hlv
      have ei : clp (N (4 + t)) = i := by rw [h4]; exact n_cl (by omega)
      rw [ei] at hr
      have eT : stp P w N t ch nt = linS w P N t ch nt i (ob P i) (kd P i) := by
        unfold stp
        rw [if_neg h9, if_neg s3, ei]
      have eA : acA P w N t ch nt = if ¬ (actS w P N t ch nt i (ob P i) (kd P i)).1 = 0 then 21 else nI (kd P i) := by
        unfold acA
        rw [if_neg h9, if_neg s3, ei]
      rw [eT, eA, ei]
      generalize hkk : kd P i = k at *
      generalize hoo : ob P i = o at *
      -- what the act gives goes on
      have fin : ∀ (F1 G1 : fI) (b1 : Int32), F1 12 = tgtS P N i k → (∃ F' : fI, L_X3_take_183 en (d + 5) m (nI t) (actS w P N t ch nt i o k).1 (mS σ m F1 (actS w P N t ch nt i o k).2 b1 G1) = some (none, mS σ m F' (linS w P N t ch nt i o k) b1 G1) ∧ (∀ j, j ≠ 10 → F' j = F1 j) ∧ F' 10 = if ¬ (actS w P N t ch nt i o k).1 = 0 then 21 else F1 10) := by
        intro F1 G1 b1 hF12
        unfold linS
        generalize actS w P N t ch nt i o k = A
        obtain ⟨y, M⟩ := A
        dsimp only
        by_cases hy : y = 0
        · refine ⟨F1, le_X3_take_183 en (d + 5) m _ _ _ _ ?_, fun j _ => rfl, by rw [if_neg (not_not_intro hy)]⟩
          simp (disch := omega) only [xb_lm hB, gdT, hy, if_true, not_true, if_false, n_al, n_in, n_cl, mS_n, Nat.zero_add, mS_m, hF12, x_go hB ht, bV_some]
          by_cases hM : M t = 1
          · simp only [hM, not_true, if_false, if_true]
          · simp only [hM, not_false_eq_true, if_true, if_false]
        · refine ⟨upd F1 10 21, le_X3_take_183 en (d + 5) m _ _ _ _ ?_, fun j hj => pk_un hj, by rw [if_pos hy, pk_us]⟩
          simp (disch := omega) only [xb_lm hB, gdT, hy, if_false, not_false_eq_true, if_true, n_al, n_in, n_cl, mS_wn, nm_eq, Nat.zero_add, mS_wm]
          rfl
      have e1 : ∀ M : fI, (mS σ m M N b G).1 (p + 7) = P 7 := fun M => xb_P hB (by decide)
      by_cases k4 : k ≤ 4
      · have g0 : actS w P N t ch nt i o k = touS w P N t o ch i k := by unfold actS; rw [if_pos k4]
        have hroo : k = 2 ∨ k = 3 ∨ k = 4 → roS P w N t i o k = true := by
          intro z
          unfold chK at hr
          by_cases y : ¬ N (56 + t) = 0 ∧ (3 ≤ k ∧ k ≤ 12 ∨ k = 2 ∧ vol P o = true)
          · rw [if_pos y] at hr; omega
          · rw [if_neg y, if_neg (by omega), if_pos z] at hr
            by_cases x : roS P w N t i o k = true
            · exact x
            · rw [if_neg x] at hr; omega
        have hw3 : ∀ y : w = 2, 1 ≤ k → ∃ a, N (72 + o) = nI a ∧ 1 ≤ a ∧ a ≤ 9 := by
          intro y k1
          obtain ⟨a, a1, a2, a3, -⟩ := sv_ce Sw y hc8 (ho1 (by omega) (by omega)).2
          exact ⟨a, a1, a2, a3⟩
        obtain ⟨G', b', hG⟩ := x_touch (en := en) (d := d) (b := b) (G := G) (F := upd (upd (upd (upd F 11 0) 9 (nI i)) 12 (P 23 i)) 10 (nI k)) (N := N) (x := P 9 i) (c := o) (ch := ch) (w := w) hB ht (by rw [pk_un (by decide), pk_un (by decide), pk_un (by decide), pk_un (by decide)]; exact hw) hw2 pk_us k4 (by rw [pk_un (by decide), pk_un (by decide), pk_us]) hi100 h4 hx5 hx7 hl6 (fun k1 => by
            obtain ⟨a1, a2⟩ := ho1 k1 k4
            exact ⟨a1, a1, by omega⟩) hch
          (fun k1 => by
            subst k1
            refine ⟨fun y => hw3 y (by decide), fun y hv => ?_, sv_q Sq ht⟩
            obtain ⟨a, a1, a2, a3⟩ := hw3 y (by decide)
            unfold chK at hr
            rw [if_neg (fun z => by omega), if_pos rfl, if_pos ⟨y, hv⟩] at hr
            have : clp (N (72 + o)) = a := by rw [a1]; exact n_cl (by omega)
            omega)
          (fun k2 => by
            subst k2
            have hroo := hroo (Or.inl rfl)
            refine ⟨fun y => ?_, fun y => ?_⟩
            · obtain ⟨a, a1, a2, a3⟩ := hw3 y (by decide)
              have : clp (N (72 + o)) = a := by rw [a1]; exact n_cl (by omega)
              subst y
              have := ro_2 hroo (by decide)
              exact ⟨a, a1, by omega⟩
            · obtain ⟨q, q1, q2⟩ := sv_q Sq ht
              have : clp (N (56 + t)) = q := by rw [q1]; exact n_cl (by omega)
              subst y
              have := ro_1 hroo
              exact ⟨q, q1, by omega⟩)
          (fun k3 y => by
            subst k3
            have hroo := hroo (Or.inr (Or.inl rfl))
            obtain ⟨a, a1, a2, a3⟩ := hw3 y (by decide)
            have : clp (N (72 + o)) = a := by rw [a1]; exact n_cl (by omega)
            subst y
            exact ⟨a, a1, a2, a3, fun z h7 => ro_3 hroo (by omega) h7⟩)
          (fun k4 y => by
            subst k4
            have hroo := hroo (Or.inr (Or.inr rfl))
            obtain ⟨a, a1, a2, a3⟩ := hw3 y (by decide)
            have : clp (N (72 + o)) = a := by rw [a1]; exact n_cl (by omega)
            subst y
            have := ro_2 hroo (by decide)
            exact ⟨a, a1, a2, by omega⟩)
        rw [← g0] at hG
        obtain ⟨F', f1, f2, f3⟩ := fin (upd (upd (upd (upd F 11 0) 9 (nI i)) 12 (P 23 i)) 10 (nI k)) G' b' (by
          rw [pk_un (by decide), pk_us]
          unfold tgtS
          rw [if_neg (by omega), if_neg (by omega)])
        refine ⟨F', G', b', le_X3_take en (d + 5) m _ _ _ _ ?_, ?_, ?_, ?_, ?_⟩
        · have n3 : ¬ N t = 3 := s3
          simp (disch := omega) only [xb_lm hB, gdT, nm_eq, mS_wm, e9, not_false_eq_true, if_true, n_al, n_in, n_cl, mS_n, h4, gdP (xb_lp hB), xb_R hB, Nat.add_sub_cancel, mS_m, pk_us, xb_P hB (show 9 < 25 by decide), xb_P hB (show 23 < 25 by decide), Nat.zero_add, n3, e1, hk, n_lt, hG, bI_some]
          rw [pk_un (by decide), pk_us]
          simp (disch := omega) only [n_in, gdT, n_cl, e1, hk, n_lt, if_neg, hG, bI_some, f1]
        · intro j b1 b2 b3 b4
          rw [f2 j b2, pk_un b2, pk_un b4, pk_un b1, pk_un b3]
        · rw [f2 9 (by decide), pk_un (by decide), pk_un (by decide), pk_us]; unfold lnA; rw [if_neg h9, h4]
        · rw [f3, pk_us]
        · intro z
          exfalso
          split at z
          · rcases z with z | z <;> exact absurd z (by decide)
          · rw [n_eq (by decide) (by omega), n_eq (by decide) (by omega)] at z
            omega
      · have F9 : (upd (upd (upd (upd F 11 0) 9 (nI i)) 12 (P 23 i)) 10 (nI k)) 9 = nI i := by rw [pk_un (by decide), pk_un (by decide), pk_us]
        have e12 : (upd (upd (upd (upd F 11 0) 9 (nI i)) 12 (P 23 i)) 10 (nI k)) 12 = P 23 i := by rw [pk_un (by decide), pk_us]
        have n3 : ¬ N t = 3 := s3
        by_cases k9 : k ≤ 9
        · have g0 : actS w P N t ch nt i o k = lckS P N t o ch k nt := by unfold actS; rw [if_neg k4, if_pos k9]
          obtain ⟨ho, hol⟩ := ho2 (by omega) k9
          have hG := x_lock (en := en) (d := d + 2) (b := b) (G := G) (F := upd (upd (upd (upd F 11 0) 9 (nI i)) 12 (P 23 i)) 10 (nI k)) (N := N) (ch := ch) (l := o) hB ht (by omega) pk_us (by omega) k9 (by omega) ht0 ht4 hs
          rw [← g0] at hG
          obtain ⟨F', f1, f2, f3⟩ := fin (upd (upd (upd (upd F 11 0) 9 (nI i)) 12 (P 23 i)) 10 (nI k)) G b (by
            rw [e12]
            unfold tgtS
            rw [if_neg (by omega), if_neg (by omega)])
          refine ⟨F', G, b, le_X3_take en (d + 5) m _ _ _ _ ?_, ?_, ?_, ?_, ?_⟩
          · simp (disch := omega) only [xb_lm hB, gdT, nm_eq, mS_wm, e9, not_false_eq_true, if_true, n_al, n_in, n_cl, mS_n, h4, gdP (xb_lp hB), xb_R hB, Nat.add_sub_cancel, mS_m, pk_us, xb_P hB (show 9 < 25 by decide), xb_P hB (show 23 < 25 by decide), Nat.zero_add, n3, e1, hk, n_lt]
            rw [pk_un (by decide), pk_us]
            simp (disch := omega) only [n_in, gdT, n_cl, e1, hk, n_lt, if_neg, if_pos, e12]
            simp (disch := omega) only [ho, hG, bI_some, f1]
          · intro j b1 b2 b3 b4
            rw [f2 j b2, pk_un b2, pk_un b4, pk_un b1, pk_un b3]
          · rw [f2 9 (by decide), F9]; unfold lnA; rw [if_neg h9, h4]
          · rw [f3, pk_us]
          · intro z
            exfalso
            split at z
            · rcases z with z | z <;> exact absurd z (by decide)
            · rw [n_eq (by decide) (by omega), n_eq (by decide) (by omega)] at z
              omega
        · by_cases k13 : k ≤ 13
          · have g0 : actS w P N t ch nt i o k = metS P N t o k := by unfold actS; rw [if_neg k4, if_neg k9, if_pos k13]
            obtain ⟨F1, hG, g1, g2⟩ := x_meet (en := en) (d := d + 2) (b := b) (G := G) (F := upd (upd (upd (upd F 11 0) 9 (nI i)) 12 (P 23 i)) 10 (nI k)) (N := N) (x := P 9 i) (o := o) (k := k) hB ht pk_us (by omega) k13 (fun z => by
              obtain ⟨a1, a2⟩ := ho3 z
              exact ⟨o, a1, by omega, rfl⟩)
            rw [← g0] at hG
            obtain ⟨F', f1, f2, f3⟩ := fin F1 G b (by
              rw [g2, e12]
              unfold tgtS
              by_cases z : k = 13
              · rw [if_pos z, if_pos z]
              · rw [if_neg z, if_neg z, if_neg (by omega)])
            refine ⟨F', G, b, le_X3_take en (d + 5) m _ _ _ _ ?_, ?_, ?_, ?_, ?_⟩
            · simp (disch := omega) only [xb_lm hB, gdT, nm_eq, mS_wm, e9, not_false_eq_true, if_true, n_al, n_in, n_cl, mS_n, h4, gdP (xb_lp hB), xb_R hB, Nat.add_sub_cancel, mS_m, pk_us, xb_P hB (show 9 < 25 by decide), xb_P hB (show 23 < 25 by decide), Nat.zero_add, n3, e1, hk, n_lt]
              rw [pk_un (by decide), pk_us]
              simp (disch := omega) only [n_in, gdT, n_cl, e1, hk, n_lt, if_neg, if_pos, e12]
              simp (disch := omega) only [hG, bI_some, f1]
            · intro j b1 b2 b3 b4
              rw [f2 j b2, g1 j b4, pk_un b2, pk_un b4, pk_un b1, pk_un b3]
            · rw [f2 9 (by decide), g1 9 (by decide), F9]; unfold lnA; rw [if_neg h9, h4]
            · rw [f3, g1 10 (by decide), pk_us]
            · intro z
              exfalso
              split at z
              · rcases z with z | z <;> exact absurd z (by decide)
              · rw [n_eq (by decide) (by omega), n_eq (by decide) (by omega)] at z
                omega
          · have g0 : actS w P N t ch nt i o k = (telS P N i k, N) := by unfold actS; rw [if_neg k4, if_neg k9, if_neg k13]
            obtain ⟨F1, G1, b1, hG, g1, g3, g2⟩ := x_tell (en := en) (d := d + 1) (b := b) (G := G) (F := upd (upd (upd (upd F 11 0) 9 (nI i)) 12 (P 23 i)) 10 (nI k)) (N := N) (k := k) hB pk_us (by omega) (by omega) F9 hi100 hx5
            have g4 : (actS w P N t ch nt i o k).1 = telS P N i k := by rw [g0]
            obtain ⟨F', f1, f2, f3⟩ := fin F1 G1 b1 (by
              rw [g2, e12]
              unfold tgtS
              rw [if_neg (show ¬ k = 13 by omega)])
            rw [g0] at f1
            refine ⟨F', G1, b1, le_X3_take en (d + 5) m _ _ _ _ ?_, ?_, ?_, ?_, ?_⟩
            · simp (disch := omega) only [xb_lm hB, gdT, nm_eq, mS_wm, e9, not_false_eq_true, if_true, n_al, n_in, n_cl, mS_n, h4, gdP (xb_lp hB), xb_R hB, Nat.add_sub_cancel, mS_m, pk_us, xb_P hB (show 9 < 25 by decide), xb_P hB (show 23 < 25 by decide), Nat.zero_add, n3, e1, hk, n_lt]
              rw [pk_un (by decide), pk_us]
              simp (disch := omega) only [n_in, gdT, n_cl, e1, hk, n_lt, if_neg, if_pos, e12]
              simp (disch := omega) only [hG, bI_some, f1]
            · intro j b1 b2 b3 b4
              rw [f2 j b2, g1 j b3 b4, pk_un b2, pk_un b4, pk_un b1, pk_un b3]
            · rw [f2 9 (by decide), g1 9 (by decide) (by decide), F9]; unfold lnA; rw [if_neg h9, h4]
            · rw [f3, g1 10 (by decide) (by decide), pk_us]
            · intro z
              rw [f2 11 (by decide)]
              refine g3 ?_
              rw [g4] at z
              by_cases y : telS P N i k = 0
              · exact y
              · rw [if_pos y] at z
                rcases z with z | z <;> exact absurd z (by decide)
end XT2

