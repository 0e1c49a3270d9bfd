/-! THE HISTORY: linear and ordered, both sides. -/
abbrev frHk (s s' : qS) : Prop := (∀ a, a ≠ 151 → (a < 201 ∨ 209 < a) → s'.1 a = s.1 a) ∧ (∀ k, k ≠ 87 → k ≠ 96 → s'.1 151 k = s.1 151 k) ∧ s'.2 = s.2
theorem frHk.tr {s t u : qS} (h : frHk s t) (g : frHk t u) : frHk s u := ⟨fun a h1 h2 => (g.1 a h1 h2).trans (h.1 a h1 h2), fun k h1 h2 => (g.2.1 k h1 h2).trans (h.2.1 k h1 h2), g.2.2.trans h.2.2⟩
theorem frHc.K {s t : qS} (h : frHc s t) : frHk s t := ⟨fun a h1 h2 => h.1 a h1 (by omega), fun k h1 _ => h.2.1 k h1, h.2.2⟩
theorem frHl.K {s t : qS} (h : frHl s t) : frHk s t := ⟨fun a _ h2 => h.1 a (by omega) (by omega), fun k _ _ => by rw [h.1 151 (by decide) (by decide)], h.2⟩
abbrev tmI (s : qS) (M : List Nat) : Prop := s.1 151 96 = nI M.length ∧ M.length ≤ 12 ∧ ∀ e, e < M.length → s.1 208 e = nI (M.reverse.getD e 0)
abbrev tmK (s s' : qS) : Prop := s'.1 151 96 = s.1 151 96 ∧ s'.1 208 = s.1 208
section LM
variable {en : pN} {d st n i k len p w nc nl nt : Nat} {C P f g : Nat → fI} {H0 N : fI} {L RL M : List Nat} {s0 s τ σ : qS} {x rp u : Int32} {y : gaT}
theorem m_lin45 (hn : n ≤ 12) (hI : lnI st n C f s) {Q : qR → Prop} : ∀ (k i : Nat) (rp : Int32) (L : List Nat), i + k = n → (∀ j, j ∈ L ↔ j < i ∧ ¬ C 4 j < 0) → MK rp L → (∀ (rp : Int32) (L : List Nat), (∀ j, j ∈ L ↔ j < n ∧ ¬ C 4 j < 0) → MK rp L → exQ (L_X12_linear_89 en d (nI st) rp 0 0 0 s) Q) → exQ (L_X12_linear_45 en d (nI st) rp (nI i) s) Q := by
  intro k
  induction k with
  | zero =>
    intro i rp L hi hL hm hh
    obtain rfl : i = n := by omega
    refine exQ.le (le_X12_linear_45 en _ _ _ _ _) ?_
    rw [hI.1, if_pos (by rw [n_LE (by omega) (by omega)]; omega)]
    exact hh rp L hL hm
  | succ k ih =>
    intro i rp L hi hL hm hh
    refine exQ.le (le_X12_linear_45 en _ _ _ _ _) ?_
    rw [hI.1, if_neg (by rw [n_LE (by omega) (by omega)]; omega), gd_true (n_in (by omega) (by decide)), n_cl (by omega), (hI.2.1 i (by omega)).2.1]
    by_cases a : C 4 i < 0
    · rw [if_pos a, if_pos (by decide), show rp ||| (0 : Int32) = rp from Int32.or_zero, n_ar]
      refine ih (i + 1) rp L (by omega) (fun j => ?_) hm hh
      rw [hL]
      refine and_congr_left fun z => ⟨fun w => by omega, fun w => ?_⟩
      by_cases q : j = i
      · exact absurd (q ▸ a) z
      · omega
    · obtain ⟨e', he, ee, -⟩ := (hI.2.2 i (by omega)).2.resolve_left a
      rw [if_neg a, ee, if_neg (by rw [n_le (by decide) (by omega)]; omega), nm_eq, n_ar]
      refine ih (i + 1) _ (i :: L) (by omega) (fun j => ?_) (MK_cons hm (by omega)) hh
      rw [List.mem_cons, hL]
      constructor
      · rintro (z | ⟨z, w⟩)
        · subst z; exact ⟨by omega, a⟩
        · exact ⟨by omega, w⟩
      · rintro ⟨z, w⟩
        by_cases q : j = i
        · exact Or.inl q
        · exact Or.inr ⟨by omega, w⟩
theorem m_lin269 (hM : M.length ≤ 12) : ∀ (k i : Nat) (s : qS), i + k = M.length → chI s M → (∀ e, e < i → s.1 208 e = nI (M.reverse.getD e 0)) → ∃ s', L_X12_linear_269 en d (nI M.length) (nI i) s = some (some (.int 1), s') ∧ (∀ a, a ≠ 208 → s'.1 a = s.1 a) ∧ s'.2 = s.2 ∧ ∀ e, e < M.length → s'.1 208 e = nI (M.reverse.getD e 0) := by
  intro k
  induction k with
  | zero =>
    intro i s hi hc h8
    refine ⟨s, le_X12_linear_269 en _ _ _ _ _ ?_, fun _ _ => rfl, rfl, fun e he => h8 e (by omega)⟩
    rw [if_pos (by rw [n_LE (by omega) (by omega)]; omega)]
  | succ k ih =>
    intro i s hi hc h8
    obtain ⟨s', e1, e2, e3, e4⟩ := ih (i + 1) (uI s 208 i (s.1 207 i)) (by omega) (fun e he => by rw [uI_ne (by decide)]; exact hc e he) (fun e he => by
      rw [g_I]
      by_cases q : e = i
      · rw [if_pos ⟨rfl, q⟩, q]; exact hc i (by omega)
      · rw [if_neg (fun z => q z.2)]; exact h8 e (by omega))
    refine ⟨s', le_X12_linear_269 en _ _ _ _ _ ?_, fun a ha => (e2 a ha).trans (uI_ne ha), e3, e4⟩
    rw [if_neg (by rw [n_LE (by omega) (by omega)]; omega), gd_true (n_in (by omega) (by decide)), gd_true (n_in (by omega) (by decide)), nm_eq, n_cl (by omega), n_ar]
    exact e1
theorem m_linear (h78 : σ.1 151 78 = nI len) (h74 : ¬ σ.1 151 74 = 0) (hg : ∀ k, k < 6 → σ.1 (193 + k) = g k) (hlen : len ≤ 200) (hfg : ∀ i, i < len → f 0 i = g 0 i ∧ f 3 i = g 3 i ∧ (f 3 i = 15 ∨ f 3 i = 16 → f 5 i = g 5 i)) (hft : ∀ i, i < len → ∃ t, t < 4 ∧ f 0 i = nI t) (hw : ∀ i, i < len → f 3 i = 15 → wdR (P 16 (clp (f 2 i))) (σ.2.1 199 i)) {C0 : Nat → fI} {O : fI} (hO : ∀ t, t < 4 → O t < 0) (h0 : H0 0 = 0) :
    ((u < 0 ∨ 3 < u) → qev en (d + 4) 353 [.ref 151, .int u] σ = some (some (.int (-1)), σ)) ∧ (∀ st, st ≤ 3 → u = nI st → ∃ σ', qev en (d + 4) 353 [.ref 151, .int u] σ = some (some (.int (linH P f len st C0 O H0).1), σ') ∧ frHk σ σ' ∧ (∀ M, (linH P f len st C0 O H0).2 = some M → tmI σ' M) ∧ ((linH P f len st C0 O H0).2 = none → tmK σ σ')) := by
  refine ⟨fun hu => ?_, fun st hst hu => ?_⟩
  · refine le_X12_linear en _ _ _ _ ?_
    rw [if_neg h74]
    by_cases a : u < 0
    · rw [if_pos a]
    · rw [if_neg a, if_neg (Int32.not_le.mpr (hu.resolve_left a))]
  · subst hu
    obtain ⟨l1, l2⟩ := m_layCalls (en := en) (d := d + 1) (st := st) (P := P) (f := f) (g := g) (s := σ) hlen hst hfg hft hw ⟨h78, hg⟩ (C0 := C0) hO
    have start : ∀ r, bI (qev en (d + 3) 350 [.ref 151, .int (nI st)] σ) (fun w4 s5 => if ¬ w4 = (0 : Int32) then if (s5.1 151 87) ≤ (12 : Int32) then L_X12_linear_45 en (d + 3) (nI st) (0 : Int32) (0 : Int32) s5 else some (some (.int (-3 : Int32)), s5) else some (some (.int (-2 : Int32)), s5)) = some r → qev en (d + 4) 353 [.ref 151, .int (nI st)] σ = some r := by
      intro r hh
      refine le_X12_linear en (d + 3) _ _ _ ?_
      rw [if_neg h74, if_neg (nI_pos (by omega)), if_pos (by rw [n_ge (by omega) (by omega)]; omega)]
      exact hh
    unfold linH
    cases hG : gth P f (kiS st) (aiS st) len 0 (0, C0, O) with
    | none =>
      obtain ⟨s'', e, F⟩ := l1 hG
      refine ⟨s'', start _ (by rw [e, bI_some]; rfl), F.K, fun M hM => (by cases hM), fun _ => ⟨F.2.1 96 (by decide), F.1 208 (by decide) (by decide)⟩⟩
    | some y =>
      obtain ⟨hy, hI, s'', e, F, hm⟩ := l2 y hG
      have KF : tmK σ s'' := ⟨F.2.1 96 (by decide), F.1 208 (by decide) (by decide)⟩
      show ∃ σ', qev en (d + 4) 353 [.ref 151, .int (nI st)] σ = some (some (.int (if y.1 ≤ 12 then _ else _ : Int32 × Option (List Nat)).1), σ') ∧ _ ∧ (∀ M, (if y.1 ≤ 12 then _ else _ : Int32 × Option (List Nat)).2 = some M → _) ∧ ((if y.1 ≤ 12 then _ else _ : Int32 × Option (List Nat)).2 = none → _)
      by_cases q : y.1 ≤ 12
      · rw [if_pos q]
        have HI : lnI st y.1 y.2.1 f s'' := ⟨hm.1, hm.2.2, hI⟩
        have fin : exQ (L_X12_linear_45 en (d + 3) (nI st) 0 (nI 0) s'') (fun r => ∃ σ', r = (some (.int (bt (srch st y.2.1 H0 y.1 12 []).isSome)), σ') ∧ frHk s'' σ' ∧ (∀ M, srch st y.2.1 H0 y.1 12 [] = some M → tmI σ' M) ∧ (srch st y.2.1 H0 y.1 12 [] = none → tmK s'' σ')) := by
          refine m_lin45 q HI y.1 0 0 [] (by omega) (fun j => ⟨fun z => (by cases z), fun z => absurd z.1 (Nat.not_lt_zero j)⟩) MK_nil fun rp L hL hrp => ?_
          obtain ⟨t1, t2⟩ := m_srch (en := en) (d := d) (Q := fun r => ∃ σ', r = (some (.int (bt (srch st y.2.1 H0 y.1 12 []).isSome)), σ') ∧ frHk s'' σ' ∧ (∀ M, srch st y.2.1 H0 y.1 12 [] = some M → tmI σ' M) ∧ (srch st y.2.1 H0 y.1 12 [] = none → tmK s'' σ')) hst q h0 hL hrp HI 12 [] s'' 0 rfl (fun i hi => by cases hi) List.nodup_nil frHl.rf (fun e he => absurd he (Nat.not_lt_zero e)) MK_nil
          cases hS : srch st y.2.1 H0 y.1 12 [] with
          | none =>
            rw [hS] at t1 t2
            refine t2 rfl fun s' x' v5 v6 F' _ _ => ?_
            refine exQ.le (le_X12_linear_197 en _ _ _ _ _ _ _ _ _) ?_
            rw [if_pos rfl, if_pos (by decide)]
            refine exQ.le (le_X12_linear_89 en _ _ _ _ _ _ _) ?_
            rw [if_pos (by decide)]
            refine exQ.le (le_X12_linear_255 en _ _ _) ?_
            rw [if_neg (by decide)]
            exact exQ.ret ⟨s', rfl, F'.K, fun M hM => (by cases hM), fun _ => ⟨by rw [F'.1 151 (by decide) (by decide)], F'.1 208 (by decide) (by decide)⟩⟩
          | some M =>
            rw [hS] at t1 t2
            refine t1 M rfl fun s' F' c' => ?_
            have hM12 : M.length ≤ 12 := by
              have := x_ext_len (st := st) (C := y.2.1) (H0 := H0) (n := y.1) 12 [] M (by decide) hS
              exact this
            refine exQ.le (le_X12_linear_255 en _ _ _) ?_
            rw [if_pos (by rw [n_le (by decide) (by omega)]; omega), nm_eq]
            obtain ⟨s2, e1, e2, e3, e4⟩ := m_lin269 (en := en) (d := d + 3) hM12 M.length 0 (uI s' 151 96 (nI M.length)) (by omega) (fun e he => by rw [uI_ne (by decide)]; exact c' e he) (fun e he => absurd he (Nat.not_lt_zero e))
            refine exQ.of e1 ⟨s2, rfl, ⟨fun a h1 h2 => (e2 a (by omega)).trans ((uI_ne h1).trans (F'.1 a (by omega) (by omega))), fun k h1 h2 => ?_, e3.trans F'.2⟩, fun M' hM' => ?_, fun z => by cases z⟩
            · rw [e2 151 (by decide), g_I, if_neg (fun z => h2 z.2), F'.1 151 (by decide) (by decide)]
            · cases hM'
              exact ⟨by rw [e2 151 (by decide), g_I, if_pos ⟨rfl, rfl⟩], hM12, e4⟩
        obtain ⟨r, e1, σ', rfl, e2, e3, e4⟩ := fin
        refine ⟨σ', start _ ?_, F.K.tr e2, e3, fun z => ⟨(e4 z).1.trans KF.1, (e4 z).2.trans KF.2⟩⟩
        rw [e, bI_some, if_pos (by decide), hm.1, if_pos (by rw [n_ge (by decide) (by omega)]; exact q)]
        exact e1
      · rw [if_neg q]
        refine ⟨s'', start _ ?_, F.K, fun M hM => (by cases hM), fun _ => KF⟩
        rw [e, bI_some, if_pos (by decide), hm.1, if_neg (by rw [n_ge (by decide) (by omega)]; exact q)]
theorem m_ordered (h : tmI σ M) : qev en (d + 1) 354 [.ref 151, .int u] σ = some (some (.int (if u < 0 then -2 else if u < nI M.length then nI (M.reverse.getD (clp u) 0) else -2)), σ) := by
  obtain ⟨h1, h2, h3⟩ := h
  refine le_X12_ordered en _ _ _ _ ?_
  by_cases a : u < 0
  · rw [if_pos a, if_pos a]
  · rw [if_neg a, if_neg a, h1]
    by_cases b : u < nI M.length
    · rw [if_pos b, if_pos b]
      obtain ⟨k, hk0, rfl⟩ := nI_of a
      have hk : k < M.length := by rw [n_LT hk0 (by omega)] at b; exact b
      rw [gd_true (n_in (by omega) (by decide)), n_cl (by omega), h3 k hk, show clp (nI k) = k from n_clp (by omega)]
    · rw [if_neg b, if_neg b]
/-- calls' words of the model's version v tell the class's numbers -/
abbrev WDv (σ : qS) (v n : Nat) (P : Nat → fI) : Prop := ∀ l, l < n → kd P l = 15 → wdR (P 16 l) (σ.2.1 180 (100 * v + l))
theorem linear_alike (hx : RXi τ p P w N len f) (hm : RMi σ P w N nc nl nt n len g) (hP : PV P nc nl nt n) (hs : ∀ i, i < len → sR P n f g i) (hth : ∀ i, i < len → ∃ t, t < nt ∧ f 0 i = nI t) (hlen : len ≤ 200) (h16 : τ.1 (p + 16) = P 16) (hW : WDv σ 3 n P) : ∃ (r : Int32) (τ' σ' : qS), qev en (d + 29) 218 [.ref 0, .int u] τ = some (some (.int r), τ') ∧ qev en (d + 4) 353 [.ref 151, .int u] σ = some (some (.int r), σ') ∧ frG τ τ' ∧ frHk σ σ' ∧ ((∃ M, tdI τ' M ∧ tmI σ' M) ∨ (tdK τ τ' ∧ tmK σ σ')) := by
  have hn := hP.2.2.2.1.2
  have hnt := hP.2.2.1.2
  have call : ∀ i, i < len → f 3 i = 15 → ∃ l, l < n ∧ f 2 i = nI l ∧ kd P l = 15 := fun i hi h15 => by
    rcases (hs i hi).2 with ⟨z, -⟩ | ⟨-, -, l, hl, h2, -, z⟩
    · rw [h15] at z; exact absurd z (by decide)
    · refine ⟨l, hl, h2, ?_⟩
      rcases z with z | z | z
      · rw [h15] at z
        show clp (P 7 l) = 15
        rw [← z]; decide
      · rw [h15] at z; exact absurd z (by decide)
      · rw [h15] at z; exact absurd z (by decide)
  obtain ⟨x1, x2⟩ := x_linear (en := en) (d := d) (u := u) hx hlen h16 (fun i hi => by obtain ⟨t, ht, e⟩ := hth i hi; exact ⟨t, by omega, e⟩) (fun i hi h15 => by obtain ⟨l, hl, e, -⟩ := call i hi h15; exact ⟨l, by omega, e⟩)
  obtain ⟨m1, m2⟩ := m_linear (en := en) (d := d) (u := u) (P := P) (f := f) (H0 := upd (τ.1 134) 0 0) hm.2.2.2.1.2.2.2.2.1 hm.2.2.2.1.2.2.2.2.2 hm.2.2.2.2.1 hlen (fun i hi => ⟨(hs i hi).1.1, (hs i hi).1.2.2.2.1, (hs i hi).1.2.2.2.2⟩) (fun i hi => by obtain ⟨t, ht, e⟩ := hth i hi; exact ⟨t, by omega, e⟩) (fun i hi h15 => by
    obtain ⟨l, hl, e, hk⟩ := call i hi h15
    have g3 : g 3 i ≠ 20 := by rw [← (hs i hi).1.2.2.2.1, h15]; decide
    have g2 : clp (g 2 i) = l := by rw [← (hs i hi).1.2.2.1, e]; exact n_clp (by omega)
    rw [hm.2.2.2.2.2 i hi g3, g2, e, show clp (nI l) = l from n_clp (by omega)]
    exact hW l hl hk) (C0 := fun r => τ.1 (127 + r)) (O := fl4 (τ.1 148) 4) (fun t ht => by show (if t < 4 then -1 else τ.1 148 t) < 0; rw [if_pos ht]; decide) pk_us
  by_cases a : u < 0 ∨ 3 < u
  · exact ⟨-1, τ, σ, x1 a, m1 a, ⟨fun _ _ => rfl, rfl⟩, ⟨fun _ _ _ => rfl, fun _ _ _ => rfl, rfl⟩, Or.inr ⟨⟨rfl, rfl⟩, ⟨rfl, rfl⟩⟩⟩
  · obtain ⟨st, hst0, rfl⟩ := nI_of (fun z => a (Or.inl z))
    have hst : st ≤ 3 := by
      refine Classical.byContradiction fun w => a (Or.inr ?_)
      rw [n_lt (by decide) hst0]
      omega
    obtain ⟨τ', e1, e2, e3⟩ := x2 st hst rfl
    obtain ⟨σ', f1, f2, f3, f4⟩ := m2 st hst rfl
    refine ⟨_, τ', σ', e1, f1, e2, f2, ?_⟩
    cases hS : (linH P f len st (fun r => τ.1 (127 + r)) (fl4 (τ.1 148) 4) (upd (τ.1 134) 0 0)).2 with
    | none => exact Or.inr ⟨e3.2 hS, f4 hS⟩
    | some M => exact Or.inl ⟨M, e3.1 M hS, f3 M hS⟩
end LM
