/-! ALL TURNS, the model's side: findings in a state, all threads. -/
section MFj
variable {en : pN} {d w nc nl nt n vv t k i l u : Nat} {σ : qS} {P : Nat → fI} {F s y g N T0 T g0 : fI} {D : Int64} {τ : qS} {Q : Nat → Prop} {sv : Int32}
theorem toM_iff {a : Nat} (ha : a < 100) : toM (nI a) ↔ 1 ≤ a ∧ a ≤ 4 := by
  have e : ∀ k c, k < 100 → c < 100 → (nI k = nI c ↔ k = c) := fun k c h1 h2 => iff_of_eq (n_EQ (by omega) (by omega))
  have h1 : (1 : Int32) = nI 1 := rfl
  have h2 : (2 : Int32) = nI 2 := rfl
  have h3 : (3 : Int32) = nI 3 := rfl
  have h4 : (4 : Int32) = nI 4 := rfl
  unfold toM
  rw [h1, h2, h3, h4, e a 1 ha (by decide), e a 2 ha (by decide), e a 3 ha (by decide), e a 4 ha (by decide)]
  omega
/-- a line that touches nothing races with nothing -/
theorem m_find138n (hP : PV P nc nl nt n) (hS : SV P w nc nl nt n N) (hR : MR w N s) (hw2 : w ≤ 2) (hi : i < n) (hno : ¬ toM (P 7 i)) :
    ∀ (m u : Nat) (F g : fI), u + m = nt → MB σ vv P nc nl nt n → MF F w vv nc nl nt → ∃ (F' g' : fI), (∀ r, L_X12_findIn_2 en (d + 6) (nI k) (nI (t + 1)) (mM σ F' s y g' D) = some r → L_X12_findIn_138 en (d + 6) (nI k) (nI t) (nI (100 * vv + i)) (P 7 i) (nI u) (mM σ F s y g D) = some r) ∧ ∀ j, j ≠ 62 → F' j = F j := by
  have ht4 := hP.2.2.1.2
  have hn := hP.2.2.2.1.2
  have hwd := wid_ge (w := w)
  intro m
  induction m with
  | zero =>
    intro u F g hu hB hF
    obtain rfl : u = nt := by omega
    refine ⟨F, g, fun r hh => le_X12_findIn_138 en _ _ _ _ _ _ _ _ ?_, fun _ _ => rfl⟩
    rw [show (mM σ F s y g D).1 151 18 = nI u from hF.2.2.1, if_pos (Int32.le_refl _), n_ar]
    exact hh
  | succ m ih =>
    intro u F g hu hB hF
    have hvv := hB.1
    have hun : u < nt := by omega
    have es : (mM σ F s y g D).1 187 u = N u := by
      show s u = _
      rw [hR u (by omega)]
      exact if_pos (by omega)
    have go : ∀ (F1 g1 : fI), (∀ j, j ≠ 62 → F1 j = F j) → (∀ r, L_X12_findIn_138 en (d + 6) (nI k) (nI t) (nI (100 * vv + i)) (P 7 i) (nI (u + 1)) (mM σ F1 s y g1 D) = some r → L_X12_findIn_138 en (d + 6) (nI k) (nI t) (nI (100 * vv + i)) (P 7 i) (nI u) (mM σ F s y g D) = some r) → ∃ (F' g' : fI), (∀ r, L_X12_findIn_2 en (d + 6) (nI k) (nI (t + 1)) (mM σ F' s y g' D) = some r → L_X12_findIn_138 en (d + 6) (nI k) (nI t) (nI (100 * vv + i)) (P 7 i) (nI u) (mM σ F s y g D) = some r) ∧ ∀ j, j ≠ 62 → F' j = F j := by
      intro F1 g1 hF1 hs
      have f1 : fMd σ σ F F1 := ⟨fun _ _ _ => rfl, rfl, hF1⟩
      obtain ⟨F', g', a1, a2⟩ := ih (u + 1) F1 g1 (by omega) hB (fMd.MF hF f1)
      exact ⟨F', g', fun r hh => hs r (a1 r hh), fun j hj => (a2 j hj).trans (hF1 j hj)⟩
    by_cases h1 : N u = 1
    · obtain ⟨⟨j, hj, h4j, -⟩, -⟩ := sv_run (hS.1.1 u hun) h1
      obtain ⟨F1, g1, c1, c2⟩ := m_choices (en := en) (d := d) (y := y) (g := g) (D := D) hB hP hS hF hR hw2 hun
      have f1 : fMd σ σ F F1 := ⟨fun _ _ _ => rfl, rfl, c2⟩
      have hF1 := fMd.MF hF f1
      have cle := ch_le hP hS hun
      refine go F1 g1 c2 fun r hh => le_X12_findIn_138 en _ _ _ _ _ _ _ _ ?_
      rw [show (mM σ F s y g D).1 151 18 = nI nt from hF.2.2.1, if_neg (by rw [n_LE (by omega) (by omega)]; omega), Int32.zero_add, gd_true (n_in (by omega) (by decide)), n_cl (by omega), es, n_ar, if_neg (fun z => z h1), c1, bI_some]
      by_cases hc : chs P w N u nt = 0
      · rw [hc, if_pos (show nI 0 ≤ (0 : Int32) from Int32.le_refl _)]
        exact hh
      · rw [if_neg (by rw [show (0 : Int32) = nI 0 from rfl, n_LE (by omega) (by omega)]; omega), m_line (d := d + 5) hF1 hR (by omega) hvv h4j (by omega), bI_some, gd_true (n_in (by omega) (by decide)), m_racing (d := d + 4), bI_some, decide_eq_false (fun z => hno z.2.1), if_pos (show bt false = (0 : Int32) from rfl)]
        refine le_X12_findIn_213 en _ _ _ _ _ _ _ _ _ _ ?_
        rw [if_pos rfl, n_ar]
        exact hh
    · refine go F g (fun _ _ => rfl) fun r hh => le_X12_findIn_138 en _ _ _ _ _ _ _ _ ?_
      rw [show (mM σ F s y g D).1 151 18 = nI nt from hF.2.2.1, if_neg (by rw [n_LE (by omega) (by omega)]; omega), Int32.zero_add, gd_true (n_in (by omega) (by decide)), n_cl (by omega), es, n_ar, if_pos h1]
      exact hh
theorem m_findIn (hB : MB σ vv P nc nl nt n) (hP : PV P nc nl nt n) (hS : SV P w nc nl nt n N) (hF : MF F w vv nc nl nt) (hR : MR w N s) (hw2 : w ≤ 2) (hsv : (nI k : Int32) ≠ -2) : ∃ (σ' : qS) (F' g' : fI), qev en (d + 7) 364 [.ref 151, .int (nI k)] (mM σ F s y g D) = some (none, mM σ' F' s y g' D) ∧ fMd σ σ' F F' ∧ rcN (σ.1 223) (nI k) (hasR P w N nt) (σ'.1 223) ∧ ∀ c, c < 8 → σ'.1 224 c = guT P w N nl nt nt (σ.1 224) c := by
  have ht4 := hP.2.2.1.2
  have hn := hP.2.2.2.1.2
  have hc8 := hP.1.2
  have hwd := wid_ge (w := w)
  have loop : ∀ (m t : Nat) (σ1 : qS) (F1 g1 : fI), t + m = nt → fMd σ σ1 F F1 → rcN (σ.1 223) (nI k) (fun z => ∃ t' u, t' < t ∧ t' < u ∧ u < nt ∧ rcT P w N nt t' u z = true) (σ1.1 223) → (∀ c, c < 8 → σ1.1 224 c = guT P w N nl nt t (σ.1 224) c) → ∃ (σ' : qS) (F' g' : fI), L_X12_findIn_2 en (d + 6) (nI k) (nI t) (mM σ1 F1 s y g1 D) = some (none, mM σ' F' s y g' D) ∧ fMd σ σ' F F' ∧ rcN (σ.1 223) (nI k) (hasR P w N nt) (σ'.1 223) ∧ ∀ c, c < 8 → σ'.1 224 c = guT P w N nl nt nt (σ.1 224) c := by
    intro m
    induction m with
    | zero =>
      intro t σ1 F1 g1 ht f1 hQ hg
      obtain rfl : t = nt := by omega
      refine ⟨σ1, F1, g1, le_X12_findIn_2 en _ _ _ _ _ ?_, f1, rcN_cg hQ fun z => ?_, hg⟩
      · rw [show (mM σ1 F1 s y g1 D).1 151 18 = nI t from (fMd.MF hF f1).2.2.1, if_pos (Int32.le_refl _)]
      · constructor
        · rintro ⟨a, u, b1, b2, b3, b4⟩
          exact ⟨u, a, b2, b3, rcT_sy.trans b4⟩
        · rintro ⟨a, u, b1, b2, b3⟩
          exact ⟨u, a, by omega, b1, b2, rcT_sy.trans b3⟩
    | succ m ih =>
      intro t σ1 F1 g1 ht f1 hQ hg
      have htn : t < nt := by omega
      have hB1 := fMd.MB hB f1
      have hF1 := fMd.MF hF f1
      have hvv := hB.1
      have es : (mM σ1 F1 s y g1 D).1 187 t = N t := by
        show s t = _
        rw [hR t (by omega)]
        exact if_pos (by omega)
      have eg : guT P w N nl nt (t + 1) (σ.1 224) = if tch P w N nt t then upd (guT P w N nl nt t (σ.1 224)) (ob P (lnS N t)) (guT P w N nl nt t (σ.1 224) (ob P (lnS N t)) &&& loB N t nl) else guT P w N nl nt t (σ.1 224) := rfl
      -- a thread that does not touch
      have skip : tch P w N nt t = false → ∀ (F2 g2 : fI), (∀ j, j ≠ 62 → F2 j = F1 j) → (∀ r, L_X12_findIn_2 en (d + 6) (nI k) (nI (t + 1)) (mM σ1 F2 s y g2 D) = some r → L_X12_findIn_2 en (d + 6) (nI k) (nI t) (mM σ1 F1 s y g1 D) = some r) → ∃ (σ' : qS) (F' g' : fI), L_X12_findIn_2 en (d + 6) (nI k) (nI t) (mM σ1 F1 s y g1 D) = some (none, mM σ' F' s y g' D) ∧ fMd σ σ' F F' ∧ rcN (σ.1 223) (nI k) (hasR P w N nt) (σ'.1 223) ∧ ∀ c, c < 8 → σ'.1 224 c = guT P w N nl nt nt (σ.1 224) c := by
        intro htc F2 g2 hF2 hs
        have f2 : fMd σ σ1 F F2 := f1.tr ⟨fun _ _ _ => rfl, rfl, hF2⟩
        obtain ⟨σ', F', g', a1, a2⟩ := ih (t + 1) σ1 F2 g2 (by omega) f2 (rcN_cg hQ fun z => ⟨fun ⟨a, u, b1, b2⟩ => ⟨a, u, by omega, b2⟩, fun ⟨a, u, b1, b2, b3, b4⟩ => ⟨a, u, by
          by_cases q : a = t
          · rw [q] at b4
            unfold rcT at b4
            rw [htc] at b4
            simp at b4
          · omega, b2, b3, b4⟩⟩) (fun c hc => by rw [eg, htc, if_neg (by decide)]; exact hg c hc)
        exact ⟨σ', F', g', hs _ a1, a2⟩
      by_cases h1 : N t = 1
      · obtain ⟨⟨i, hi, h4, -⟩, -⟩ := sv_run (hS.1.1 t htn) h1
        have eli : lnS N t = i := by show clp (N (4 + t)) = i; rw [h4]; exact n_clp (by omega)
        have hLi := hP.2.2.2.2.1 i hi
        obtain ⟨F2, g2, c1, c2⟩ := m_choices (en := en) (d := d) (y := y) (g := g1) (D := D) hB1 hP hS hF1 hR hw2 htn
        have f2 : fMd σ1 σ1 F1 F2 := ⟨fun _ _ _ => rfl, rfl, c2⟩
        have hF2 := fMd.MF hF1 f2
        have cle := ch_le hP hS htn
        have start : ∀ r, (if ¬ nI (chs P w N t nt) = (0 : Int32) then (if P 7 i = (1 : Int32) then L_X12_findIn_73 en (d + 6) (nI k) (nI t) (nI (100 * vv + i)) (P 7 i) (0 : Int32) (nI 0) (mM σ1 F2 s y g2 D) else if P 7 i = (2 : Int32) then L_X12_findIn_73 en (d + 6) (nI k) (nI t) (nI (100 * vv + i)) (P 7 i) (0 : Int32) (nI 0) (mM σ1 F2 s y g2 D) else if bt (decide (P 7 i = 3 ∨ P 7 i = 4)) = (0 : Int32) then L_X12_findIn_138 en (d + 6) (nI k) (nI t) (nI (100 * vv + i)) (P 7 i) (nI (t + 1)) (mM σ1 F2 s y g2 D) else L_X12_findIn_73 en (d + 6) (nI k) (nI t) (nI (100 * vv + i)) (P 7 i) (0 : Int32) (nI 0) (mM σ1 F2 s y g2 D)) else L_X12_findIn_2 en (d + 6) (nI k) (nI (t + 1)) (mM σ1 F2 s y g2 D)) = some r → L_X12_findIn_2 en (d + 6) (nI k) (nI t) (mM σ1 F1 s y g1 D) = some r := by
          intro r hh
          refine le_X12_findIn_2 en _ _ _ _ _ ?_
          have e164 : (mM σ1 F2 s y g2 D).1 164 (nI (100 * vv + i)).toNatClampNeg = P 7 i := by
            rw [mM_o (by decide) (by decide) (by decide) (by decide), n_cl (by omega)]
            exact (hB1.2.1 i hi).1
          rw [show (mM σ1 F1 s y g1 D).1 151 18 = nI nt from hF1.2.2.1, if_neg (by rw [n_LE (by omega) (by omega)]; omega), Int32.zero_add, gd_true (n_in (by omega) (by decide)), n_cl (by omega), es, if_neg (fun z => z h1), c1, bI_some, m_line (d := d + 5) hF2 hR (by omega) hvv h4 (by omega), bI_some, gd_true (n_in (by omega) (by decide)), e164, nm_eq, m_atO (d := d + 5), bI_some, n_ar]
          exact hh
        by_cases hc : chs P w N t nt = 0
        · refine skip (by unfold tch; rw [decide_eq_false (show ¬ 0 < chs P w N t nt by omega)]; simp) F2 g2 c2 (fun r hh => start r ?_)
          rw [hc, if_neg (fun z => z rfl)]
          exact hh
        · rw [if_pos (show ¬ nI (chs P w N t nt) = (0 : Int32) by rw [show (0 : Int32) = nI 0 from rfl, n_EQ (by omega) (by omega)]; exact hc)] at start
          by_cases htm : toM (P 7 i)
          · have hk := htm
            rw [hLi.1.1, toM_iff (by have := hLi.1.2; omega)] at hk
            obtain ⟨o1, o2⟩ := hLi.2.2.1 hk.1 hk.2
            have htc : tch P w N nt t = true := by
              unfold tch
              rw [eli, decide_eq_true h1, decide_eq_true hk.1, decide_eq_true hk.2, decide_eq_true (show 0 < chs P w N t nt by omega)]
              rfl
            have start2 : ∀ r, L_X12_findIn_73 en (d + 6) (nI k) (nI t) (nI (100 * vv + i)) (P 7 i) (0 : Int32) (nI 0) (mM σ1 F2 s y g2 D) = some r → L_X12_findIn_2 en (d + 6) (nI k) (nI t) (mM σ1 F1 s y g1 D) = some r := by
              intro r hh
              refine start r ?_
              by_cases q1 : P 7 i = 1
              · rw [if_pos q1]; exact hh
              rw [if_neg q1]
              by_cases q2 : P 7 i = 2
              · rw [if_pos q2]; exact hh
              rw [if_neg q2, decide_eq_true ((htm.resolve_left q1).resolve_left q2), if_neg (show ¬ bt true = (0 : Int32) by decide)]
              exact hh
            let σ2 : qS := uI σ1 224 (ob P i) (σ1.1 224 (ob P i) &&& loB N t nl)
            have f3 : fMd σ1 σ2 F1 F2 := ⟨fun c _ h2 => uI_ne h2, rfl, c2⟩
            have e223 : σ2.1 223 = σ1.1 223 := uI_ne (by decide)
            obtain ⟨σ3, F3, g3, a1, a2, a3, a4⟩ := m_find138 (en := en) (d := d) (y := y) (D := D) (T0 := σ.1 223) hP hS hR hw2 htn htc h4 hi hsv m (t + 1) σ2 F2 g2 _ (by omega) (by omega) (fMd.MB hB1 f3) (fMd.MF hF1 f3) (by rw [e223]; exact hQ)
            obtain ⟨σ', F', g', b1, b2⟩ := ih (t + 1) σ3 F3 g3 (by omega) ((f1.tr f3).tr a2) (rcN_cg a4 fun z => by
              constructor
              · rintro (⟨a, u, c1, c2⟩ | ⟨u, c1, c2, c3⟩)
                · exact ⟨a, u, by omega, c2⟩
                · exact ⟨t, u, by omega, by omega, c2, c3⟩
              · rintro ⟨a, u, c1, c2, c3, c4⟩
                by_cases q : a = t
                · subst q; exact Or.inr ⟨u, by omega, c3, c4⟩
                · exact Or.inl ⟨a, u, by omega, c2, c3, c4⟩) (fun c hc => by
              rw [a3, eg, if_pos htc, eli]
              show (uI σ1 224 (ob P i) (σ1.1 224 (ob P i) &&& loB N t nl)).1 224 c = _
              rw [uI_row, hg (ob P i) (by omega)]
              by_cases q : c = ob P i
              · rw [q, pk_us, pk_us]
              · rw [pk_un q, pk_un q]; exact hg c hc)
            exact ⟨σ', F', g', start2 _ (m_find73 hB1 hP hF2 hR htn hi o1 (by omega) rfl (a1 _ b1)), b2⟩
          · have htc : tch P w N nt t = false := by
              unfold tch
              rw [eli]
              rw [hLi.1.1, toM_iff (by have := hLi.1.2; omega)] at htm
              by_cases q : 1 ≤ kd P i
              · rw [decide_eq_false (show ¬ kd P i ≤ 4 by omega)]; simp
              · rw [decide_eq_false q]; simp
            obtain ⟨F3, g3, a1, a2⟩ := m_find138n (en := en) (d := d) (σ := σ1) (t := t) (k := k) (y := y) (D := D) hP hS hR hw2 hi htm m (t + 1) F2 g2 (by omega) hB1 hF2
            refine skip htc F3 g3 (fun j hj => (a2 j hj).trans (c2 j hj)) (fun r hh => start r ?_)
            rw [if_neg (fun z => htm (Or.inl z)), if_neg (fun z => htm (Or.inr (Or.inl z))), decide_eq_false (fun z => htm (Or.inr (Or.inr z))), if_pos (show bt false = (0 : Int32) from rfl)]
            exact a1 r hh
      · refine skip (by unfold tch; rw [decide_eq_false h1]; simp) F1 g1 (fun _ _ => rfl) (fun r hh => le_X12_findIn_2 en _ _ _ _ _ ?_)
        rw [show (mM σ1 F1 s y g1 D).1 151 18 = nI nt from hF1.2.2.1, if_neg (by rw [n_LE (by omega) (by omega)]; omega), Int32.zero_add, gd_true (n_in (by omega) (by decide)), n_cl (by omega), es, n_ar, if_pos h1]
        exact hh
  obtain ⟨σ', F', g', a1, a2⟩ := loop nt 0 σ F g (by omega) ⟨fun _ _ _ => rfl, rfl, fun _ _ => rfl⟩ (fun z => ⟨fun _ => rfl, fun _ ⟨_, _, h, _⟩ => absurd h (Nat.not_lt_zero _)⟩) (fun _ _ => rfl)
  exact ⟨σ', F', g', le_X12_findIn en _ _ _ _ a1, a2⟩
end MFj
