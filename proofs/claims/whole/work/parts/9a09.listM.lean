/-! THE MODEL'S LIST of ready steps. -/
section ML
variable {en : pN} {d t i n top k K w e a c l u ch nc nl nt vv j m p o : Nat} {v x z : Int32} {q : Nat} {σ τ : qS} {F s y g N R : fI} {P : Nat → fI} {D : Int64}
theorem exM_cg (h : ∀ a, a = 161 ∨ a = 162 → τ.1 a = σ.1 a) {r : Nat} {a' e' : Int32} (hx : exM σ P t r i a' e') : exM τ P t r i a' e' := by
  obtain ⟨a, e, h1, h2, h3, h4, h5⟩ := hx
  refine ⟨a, e, h1, h2, h3, h4, ?_⟩
  rcases h5 with h5 | ⟨b1, b2, b3, b4, b5⟩ | h5
  · exact Or.inl h5
  · refine Or.inr (Or.inl ⟨b1, b2, b3, fun j a1 a2 k hk hk2 => ?_, fun j a1 a2 => ?_⟩)
    · rw [h 161 (Or.inl rfl), h 162 (Or.inr rfl)]; exact b4 j a1 a2 k hk hk2
    · rw [h 161 (Or.inl rfl)]; exact b5 j a1 a2
  · exact Or.inr (Or.inr h5)
theorem lnM_cg (h : ∀ a, 150 < a → a < 187 → a ≠ 151 → τ.1 a = σ.1 a) (hL : lnM σ vv P nt i) : lnM τ vv P nt i := by
  obtain ⟨h1, h2, h3, h4, h5, h6, ⟨t, a1, a2, a3, a4⟩, h8, h9, h10⟩ := hL
  have g := fun a (h1 : 150 < a) (h2 : a < 187) (h3 : a ≠ 151) => h a h1 h2 h3
  refine ⟨?_, ?_, ?_, ?_, ?_, ?_, ⟨t, a1, a2, ?_, ?_⟩, h8, h9, ?_⟩
  · rw [g 164 (by decide) (by decide) (by decide)]; exact h1
  · rw [g 166 (by decide) (by decide) (by decide)]; exact h2
  · rw [g 167 (by decide) (by decide) (by decide)]; exact h3
  · rw [g 173 (by decide) (by decide) (by decide), g 174 (by decide) (by decide) (by decide), g 172 (by decide) (by decide) (by decide)]; exact h4
  · rw [g 172 (by decide) (by decide) (by decide)]; exact h5
  · rw [g 174 (by decide) (by decide) (by decide)]; exact h6
  · rw [g 176 (by decide) (by decide) (by decide), g 177 (by decide) (by decide) (by decide)]
    exact exM_cg (fun a ha => by rcases ha with rfl | rfl <;> exact g _ (by decide) (by decide) (by decide)) a3
  · rw [g 178 (by decide) (by decide) (by decide), g 179 (by decide) (by decide) (by decide)]
    exact exM_cg (fun a ha => by rcases ha with rfl | rfl <;> exact g _ (by decide) (by decide) (by decide)) a4
  · intro r hr
    rw [g r (by omega) (by omega) (by omega)]
    exact h10 r hr
theorem mb_cg (h : ∀ a, 150 < a → a < 187 → a ≠ 151 → τ.1 a = σ.1 a) (hB : MB σ vv P nc nl nt n) : MB τ vv P nc nl nt n := by
  obtain ⟨h1, h2, h3, h4⟩ := hB
  refine ⟨h1, fun i hi => lnM_cg h (h2 i hi), fun c hc => ?_, fun t ht => ?_⟩
  · rw [h 154 (by decide) (by decide) (by decide), h 155 (by decide) (by decide) (by decide)]; exact h3 c hc
  · rw [h 158 (by decide) (by decide) (by decide), h 181 (by decide) (by decide) (by decide)]; exact h4 t ht
theorem mb_190 (hB : MB σ vv P nc nl nt n) : MB (uIr σ 190 R) vv P nc nl nt n := mb_cg (fun a h1 h2 h3 => uIr_ne (by omega)) hB
theorem mM_w190 : uI (mM (uIr σ 190 R) F s y g D) 190 k v = mM (uIr σ 190 (upd R k v)) F s y g D := by
  refine Prod.ext (funext fun a => funext fun j => ?_) rfl
  show (if a = 190 ∧ j = k then v else if a = 151 then F j else if a = 187 then s j else if a = 188 then y j else if a = 189 then g j else if a = 190 then R j else σ.1 a j) = if a = 151 then F j else if a = 187 then s j else if a = 188 then y j else if a = 189 then g j else if a = 190 then upd R k v j else σ.1 a j
  by_cases h : a = 190
  · rw [if_neg (show ¬ a = 151 by omega), if_neg (show ¬ a = 151 by omega), if_neg (show ¬ a = 187 by omega), if_neg (show ¬ a = 187 by omega), if_neg (show ¬ a = 188 by omega), if_neg (show ¬ a = 188 by omega), if_neg (show ¬ a = 189 by omega), if_neg (show ¬ a = 189 by omega), if_pos h, if_pos h]
    by_cases q : j = k
    · rw [if_pos ⟨h, q⟩, q, pk_us]
    · rw [if_neg (fun z => q z.2), pk_un q]
  · rw [if_neg (fun z => h z.1), if_neg h, if_neg h]
theorem mM_190 : (mM (uIr σ 190 R) F s y g D).1 190 = R := (mM_o (by decide) (by decide) (by decide) (by decide)).trans (funext fun j => (show (if (190 : Nat) = 190 then R j else σ.1 190 j) = R j from if_pos rfl))
theorem mM_190id : mM σ F s y g D = mM (uIr σ 190 (σ.1 190)) F s y g D := by
  have : uIr σ 190 (σ.1 190) = σ := by
    refine Prod.ext (funext fun a => funext fun j => ?_) rfl
    show (if a = 190 then σ.1 190 j else σ.1 a j) = _
    by_cases h : a = 190
    · rw [if_pos h, h]
    · rw [if_neg h]
  rw [this]
theorem m_list (hB : MB σ vv P nc nl nt n) (hP : PV P nc nl nt n) (hS : SV P w nc nl nt n N) (hF : MF F w vv nc nl nt) (hR : MR w N s) (hw2 : w ≤ 2) : ∃ (F' g' R' : fI), qev en (d + 7) 315 [.ref 151] (mM σ F s y g D) = some (none, mM (uIr σ 190 R') F' s y g' D) ∧ (∀ j, j ≠ 62 → j ≠ 66 → j ≠ 67 → F' j = F j) ∧ F' 66 = nI (rdl P w N nt nt).length ∧ F' 67 = rdM P w N nt nt ∧ (∀ (j : Nat) (h : j < (rdl P w N nt nt).length), R' j = nI (rdl P w N nt nt)[j]) := by
  have hP' := hP
  have hS' := hS
  obtain ⟨-, -, ⟨ht0, ht4⟩, -, -, -⟩ := hP
  obtain ⟨-, -, -, -, Sq, -⟩ := hS
  have hlen : ∀ t, t ≤ nt → (rdl P w N nt t).length ≤ 10 * t := by
    intro t
    induction t with
    | zero => intro _; exact Nat.le_refl _
    | succ t ih =>
      intro ht
      have h1 := ih (by omega)
      have h2 := rdT_len (ch_le hP' hS' (show t < nt by omega))
      show (rdl P w N nt t ++ rdT P w N nt t).length ≤ _
      rw [List.length_append]
      omega
  have FEo : ∀ F1 : fI, (∀ j, j ≠ 62 → j ≠ 66 → j ≠ 67 → F1 j = F j) → MF F1 w vv nc nl nt := fun F1 h => ⟨(h 12 (by decide) (by decide) (by decide)).trans hF.1, (h 16 (by decide) (by decide) (by decide)).trans hF.2.1, (h 18 (by decide) (by decide) (by decide)).trans hF.2.2.1, (h 58 (by decide) (by decide) (by decide)).trans hF.2.2.2.1, (h 59 (by decide) (by decide) (by decide)).trans hF.2.2.2.2⟩
  have go : ∀ (k t : Nat) (F1 g1 : fI), t + k = nt → (∀ j, j ≠ 62 → j ≠ 66 → j ≠ 67 → F1 j = F j) → F1 66 = nI (rdl P w N nt t).length → F1 67 = rdM P w N nt t → ∃ (F' g' R' : fI), L_X12_lookReady_12 en (d + 6) (nI t) (mM (uIr σ 190 (rowL (rdl P w N nt t) (σ.1 190))) F1 s y g1 D) = some (none, mM (uIr σ 190 R') F' s y g' D) ∧ (∀ j, j ≠ 62 → j ≠ 66 → j ≠ 67 → F' j = F j) ∧ F' 66 = nI (rdl P w N nt nt).length ∧ F' 67 = rdM P w N nt nt ∧ (∀ (j : Nat) (h : j < (rdl P w N nt nt).length), R' j = nI (rdl P w N nt nt)[j]) := by
    intro k
    induction k with
    | zero =>
      intro t F1 g1 hk h1 h2 h3
      obtain rfl : t = nt := by omega
      refine ⟨F1, g1, rowL (rdl P w N t t) (σ.1 190), le_X12_lookReady_12 en (d + 6) _ _ _ ?_, h1, h2, h3, fun j h => rowL_at h⟩
      simp (disch := omega) only [mM_F, (FEo F1 h1).2.2.1, n_LE, if_pos]
    | succ k ih =>
      intro t F1 g1 hk h1 h2 h3
      have ht : t < nt := by omega
      have hln := hlen t (by omega)
      have c9 := ch_le hP' hS' ht
      obtain ⟨q, hq, hq3⟩ := sv_q Sq (show t < 4 by omega)
      obtain ⟨F2, g2, hch, hF2⟩ := m_choices (en := en) (d := d) (σ := uIr σ 190 (rowL (rdl P w N nt t) (σ.1 190))) (F := F1) (y := y) (g := g1) (D := D) (mb_190 hB) hP' hS' (FEo F1 h1) hR hw2 ht
      have h1' : ∀ j, j ≠ 62 → j ≠ 66 → j ≠ 67 → F2 j = F j := fun j a b c => (hF2 j a).trans (h1 j a b c)
      have h2' : F2 66 = nI (rdl P w N nt t).length := (hF2 66 (by decide)).trans h2
      have h3' : F2 67 = rdM P w N nt t := (hF2 67 (by decide)).trans h3
      -- the mask, then the next thread
      have f98 : ∀ (F3 : fI), (∀ j, j ≠ 62 → j ≠ 66 → j ≠ 67 → F3 j = F j) → F3 66 = nI (rdl P w N nt (t + 1)).length → F3 67 = rdM P w N nt t → ∃ (F' g' R' : fI), L_X12_lookReady_98 en (d + 6) (nI t) (nI (chs P w N t nt)) (mM (uIr σ 190 (rowL (rdl P w N nt (t + 1)) (σ.1 190))) F3 s y g2 D) = some (none, mM (uIr σ 190 R') F' s y g' D) ∧ (∀ j, j ≠ 62 → j ≠ 66 → j ≠ 67 → F' j = F j) ∧ F' 66 = nI (rdl P w N nt nt).length ∧ F' 67 = rdM P w N nt nt ∧ (∀ (j : Nat) (h : j < (rdl P w N nt nt).length), R' j = nI (rdl P w N nt nt)[j]) := by
        intro F3 b1 b2 b3
        have hm : rdM P w N nt (t + 1) = rdM P w N nt t ||| (if 0 < chs P w N t nt ∨ ¬ N (56 + t) = 0 then (1 : Int32) <<< (nI t &&& 31) else 0) := rfl
        obtain ⟨F', g', R', e1, e2, e3, e4, e5⟩ := ih (t + 1) (upd F3 67 (rdM P w N nt (t + 1))) g2 (by omega) (fun j a b c => (pk_un c).trans (b1 j a b c)) ((pk_un (by decide)).trans b2) pk_us
        have f122 : ∀ x : Int32, rdM P w N nt (t + 1) = rdM P w N nt t ||| x → L_X12_lookReady_122 en (d + 6) (nI t) (rdM P w N nt t) x (mM (uIr σ 190 (rowL (rdl P w N nt (t + 1)) (σ.1 190))) F3 s y g2 D) = some (none, mM (uIr σ 190 R') F' s y g' D) := by
          intro x hx
          refine le_X12_lookReady_122 en (d + 6) _ _ _ _ _ ?_
          rw [nm_eq, mM_wF, ← hx, nI_1]
          exact e1
        refine ⟨F', g', R', le_X12_lookReady_98 en (d + 6) _ _ _ _ ?_, e2, e3, e4, e5⟩
        rw [mM_F, b3]
        have hhf := m_hasF (en := en) (d := d + 5) (σ := uIr σ 190 (rowL (rdl P w N nt (t + 1)) (σ.1 190))) (y := y) (g := g2) (D := D) (FEo F3 b1) hR hw2 (show t < 4 by omega) Sq
        by_cases hc : 0 < chs P w N t nt
        · rw [if_pos (show (0 : Int32) < nI (chs P w N t nt) by rw [n_lt (by decide) (by omega)]; exact hc)]
          exact f122 _ (by rw [hm, if_pos (Or.inl hc)])
        · rw [if_neg (show ¬ (0 : Int32) < nI (chs P w N t nt) by rw [n_lt (by decide) (by omega)]; exact hc), hhf, bI_some]
          try rw [mM_F, b3]
          by_cases hz : N (56 + t) = 0
          · rw [decide_eq_false (not_not_intro hz), if_pos (show bt false = 0 from rfl)]
            exact f122 _ (by rw [hm, if_neg (fun z => z.elim hc (fun y => y hz))])
          · rw [decide_eq_true hz, if_neg (show ¬ bt true = 0 by decide)]
            exact f122 _ (by rw [hm, if_pos (Or.inr hz)])
      -- the list grows
      have f28 : ∀ (kk j : Nat) (l : List Nat) (F3 : fI), j + kk = chs P w N t nt → l.length + kk ≤ 40 → (∀ j, j ≠ 62 → j ≠ 66 → j ≠ 67 → F3 j = F j) → F3 66 = nI l.length → F3 67 = rdM P w N nt t → l ++ ((List.range kk).map (fun z => 10 * t + (j + z)) ++ (if N (56 + t) = 0 then [] else [10 * t + 9])) = rdl P w N nt (t + 1) → ∃ (F' g' R' : fI), L_X12_lookReady_28 en (d + 6) (nI t) (nI (chs P w N t nt)) (nI j) (mM (uIr σ 190 (rowL l (σ.1 190))) F3 s y g2 D) = some (none, mM (uIr σ 190 R') F' s y g' D) ∧ (∀ j, j ≠ 62 → j ≠ 66 → j ≠ 67 → F' j = F j) ∧ F' 66 = nI (rdl P w N nt nt).length ∧ F' 67 = rdM P w N nt nt ∧ (∀ (j : Nat) (h : j < (rdl P w N nt nt).length), R' j = nI (rdl P w N nt nt)[j]) := by
        intro kk
        induction kk with
        | zero =>
          intro j l F3 hj hl b1 b2 b3 hll
          obtain rfl : j = chs P w N t nt := by omega
          have hhf := m_hasF (en := en) (d := d + 5) (σ := uIr σ 190 (rowL l (σ.1 190))) (y := y) (g := g2) (D := D) (FEo F3 b1) hR hw2 (show t < 4 by omega) Sq
          by_cases hz : N (56 + t) = 0
          · rw [if_pos hz] at hll
            simp only [List.range_zero, List.map_nil, List.append_nil] at hll
            subst hll
            obtain ⟨F', g', R', e1, e2⟩ := f98 F3 b1 b2 b3
            refine ⟨F', g', R', le_X12_lookReady_28 en (d + 6) _ _ _ _ _ ?_, e2⟩
            rw [if_pos (Int32.le_refl _), hhf, bI_some, decide_eq_false (not_not_intro hz), if_pos (show bt false = 0 from rfl)]
            exact e1
          · rw [if_neg hz] at hll
            simp only [List.range_zero, List.map_nil, List.nil_append] at hll
            obtain ⟨F', g', R', e1, e2⟩ := f98 (upd F3 66 (nI (l.length + 1))) (fun j a b c => (pk_un b).trans (b1 j a b c)) (by rw [pk_us, ← hll, List.length_append]; rfl) ((pk_un (by decide)).trans b3)
            refine ⟨F', g', R', le_X12_lookReady_28 en (d + 6) _ _ _ _ _ ?_, e2⟩
            rw [if_pos (Int32.le_refl _), hhf, bI_some, decide_eq_true hz, if_neg (show ¬ bt true = 0 by decide)]
            simp (disch := omega) only [mM_F, b2, n_in, gdT, n_cl, nm_eq, n_ml, n_ar, mM_w190, mM_wF]
            rw [rowL_add, hll]
            exact e1
        | succ kk ihh =>
          intro j l F3 hj hl b1 b2 b3 hll
          obtain ⟨F', g', R', e1, e2⟩ := ihh (j + 1) (l ++ [10 * t + j]) (upd F3 66 (nI (l.length + 1))) (by omega) (by rw [List.length_append]; simp only [List.length_cons, List.length_nil]; omega) (fun j a b c => (pk_un b).trans (b1 j a b c)) (by rw [pk_us, List.length_append]; rfl) ((pk_un (by decide)).trans b3) (by
            rw [← hll, List.range_succ_eq_map, List.map_cons, List.map_map, List.append_assoc]
            congr 1
            rw [List.cons_append]
            show [10 * t + j] ++ _ = [10 * t + (j + 0)] ++ _
            congr 2
            refine List.map_congr_left fun z _ => ?_
            show 10 * t + (j + 1 + z) = 10 * t + (j + (z + 1))
            omega)
          refine ⟨F', g', R', le_X12_lookReady_28 en (d + 6) _ _ _ _ _ ?_, e2⟩
          simp (disch := omega) only [n_LE, if_neg, mM_F, b2, n_in, gdT, n_cl, nm_eq, n_ml, nI_add, n_ar, mM_w190, mM_wF]
          rw [rowL_add]
          exact e1
      obtain ⟨F', g', R', e1, e2⟩ := f28 (chs P w N t nt) 0 (rdl P w N nt t) F2 (by omega) (by omega) h1' h2' h3' (by
        show _ = rdl P w N nt t ++ rdT P w N nt t
        unfold rdT
        simp only [Nat.zero_add])
      refine ⟨F', g', R', le_X12_lookReady_12 en (d + 6) _ _ _ ?_, e2⟩
      simp (disch := omega) only [mM_F, (FEo F1 h1).2.2.1, n_LE, if_neg, hch, bI_some]
      exact e1
  obtain ⟨F', g', R', e1, e2⟩ := go nt 0 (upd (upd F 66 0) 67 0) g (by omega) (fun j a b c => by rw [pk_un c, pk_un b]) (by rw [pk_un (by decide), pk_us]; rfl) pk_us
  refine ⟨F', g', R', le_X12_lookReady en (d + 6) _ _ ?_, e2⟩
  rw [nm_eq, mM_wF, nm_eq, mM_wF, mM_190id]
  exact e1
end ML
