/-! LAWS, the model's side: a law judged. -/
/-- what judging changes of the model -/
abbrev jgF (σ s : qS) : Prop := (∀ c, c ≠ 151 → c ≠ 187 → c ≠ 189 → c < 233 ∨ 246 < c → s.1 c = σ.1 c) ∧ (∀ j, j ≠ 58 → j ≠ 59 → j ≠ 60 → j ≠ 62 → j ≠ 64 → j ≠ 131 → j ≠ 143 → s.1 151 j = σ.1 151 j) ∧ s.2 = σ.2
section JGN
variable {en : pN} {d w nc nl nt n k a e a2 e2 N : Nat} {σ s s' : qS} {O Q : fI} {P : Nat → fI} {X : xT} {fw fr : Bool} {W : Nat → Bool}
theorem jgF.tr' {s'' : qS} (h : jgF s s') (g : jgF s' s'') : jgF s s'' := ⟨fun c a b d e => (g.1 c a b d e).trans (h.1 c a b d e), fun j a b c d e f i => (g.2.1 j a b c d e f i).trans (h.2.1 j a b c d e f i), g.2.2.trans h.2.2⟩
theorem jgF.ex (hm : EXm P w nc nl nt n fw X σ) (g : jgF σ s) : EXm P w nc nl nt n fw X s := hm.fl (mb_cg (fun a h1 h2 h3 => g.1 a (by omega) (by omega) (by omega) (by omega)) hm.flat.1.1) ⟨fun c h1 h2 => g.1 c (by omega) (by omega) (by omega) (by omega), fun j hj => g.2.1 j (by omega) (by omega) (by omega) (by omega) (by omega) (by omega) (by omega)⟩
theorem rdl_thr (hP : PV P nc nl nt n) {K : fI} (hS : SV P w nc nl nt n K) {l : Nat} : ∀ t, t ≤ nt → t ≤ l → (rdl P w K nt t).any (fun a => decide (a / 10 = l)) = false := by
  intro t
  induction t with
  | zero => intro _ _; rfl
  | succ t ih =>
    intro ht hl
    have hc := ch_le hP hS (show t < nt by omega)
    have e : rdl P w K nt (t + 1) = rdl P w K nt t ++ rdT P w K nt t := rfl
    rw [e, List.any_append, ih (by omega) (by omega), rdT_any hc, decide_eq_false (show ¬ l = t by omega), Bool.and_false]
    rfl
theorem m_layFacts (hP : PV P nc nl nt n) (hw2 : w ≤ 2) (hX : XV P w nc nl nt n X) (hm : EXm P w nc nl nt n fw X σ) (hL : LV O Q a e) (hM : LM σ O Q a e) (c1 : Bool) : ∃ s', qev en (d + 5) 390 [.ref 151, .int (nI (400 + a)), .int (nI (400 + e)), .int (bt c1)] σ = some (none, s') ∧ jgF σ s' ∧ (∀ u, u < xN X → s'.1 (if c1 = true then 234 else 233) u = bt (lawB P w nt X O Q a e u)) ∧ s'.1 (if c1 = true then 233 else 234) = σ.1 (if c1 = true then 233 else 234) ∧ s'.1 151 131 = σ.1 151 131 := by
  obtain ⟨hw, hd, hA, h98, h99, h100⟩ := hm.flat
  obtain ⟨b1, ⟨b2, b3, b4⟩, ⟨b5, b6, b6', b6''⟩, b7, b8, b9⟩ := hw
  obtain ⟨c1', c2, c3, c4, c5⟩ := hd
  have e0 : mM (uIr σ (if c1 = true then 234 else 233) (σ.1 (if c1 = true then 234 else 233))) (σ.1 151) (σ.1 187) (σ.1 188) (σ.1 189) (σ.2.1 151 72) = σ := by rw [uIr_i, mM_id]
  obtain ⟨F', s', g', R', y1, y2, y3⟩ := m_factsLoop (en := en) (d := d) (P := P) (nt := nt) (nc := nc) (nl := nl) (n := n) (ρ := σ) (F0 := σ.1 151) (y := σ.1 188) (D := σ.2.1 151 72) (c1 := c1) hw2 hX h99 b5 b6'' (fun i hi => ⟨(c2 i hi).2.1, (c2 i hi).2.2⟩) (fun j hj => (c4.2.1 j hj).2) hL hM rfl (xN X) 0 (σ.1 151) (σ.1 187) (σ.1 189) (σ.1 (if c1 = true then 234 else 233)) (by omega) (fun _ _ _ _ _ _ => rfl) (fun u hu => absurd hu (by omega))
  rw [e0] at y1
  have hz : (if c1 = true then 234 else 233) = 233 ∨ (if c1 = true then 234 else 233) = 234 := by split <;> simp
  refine ⟨_, le_X12_layFacts en _ _ _ _ _ _ y1, ⟨fun c h1 h2 h3 h4 => ?_, fun j h1 h2 h3 h4 h5 h6 h7 => ?_, ?_⟩, fun u hu => ?_, ?_, ?_⟩
  · by_cases q : c = 188
    · rw [q, mM_y]
    · rw [mM_o h1 h2 q h3, uIr_ne (by omega)]
  · rw [mM_F]; exact y2 j h1 h2 h3 h4 h5
  · refine Prod.ext (funext fun c => funext fun j => ?_) rfl
    show (if c = 151 ∧ j = 72 then σ.2.1 151 72 else σ.2.1 c j) = _
    by_cases q : c = 151 ∧ j = 72
    · rw [if_pos q, q.1, q.2]
    · rw [if_neg q]
  · rw [mM_o (by omega) (by omega) (by omega) (by omega), uIr_row]; exact y3 u hu
  · cases c1
    · show (mM (uIr σ 233 R') F' s' (σ.1 188) g' (σ.2.1 151 72)).1 234 = σ.1 234
      rw [mM_o (by decide) (by decide) (by decide) (by decide), uIr_ne (by decide)]
    · show (mM (uIr σ 234 R') F' s' (σ.1 188) g' (σ.2.1 151 72)).1 233 = σ.1 233
      rw [mM_o (by decide) (by decide) (by decide) (by decide), uIr_ne (by decide)]
  · rw [mM_F]; exact y2 131 (by decide) (by decide) (by decide) (by decide) (by decide)
theorem wlF.jg (h : wlF s s') : jgF s s' := ⟨fun c a b d e => h.1 c a (by omega), fun j a b c d e f i => h.2.1 j i, h.2.2⟩
theorem m_judged (hP : PV P nc nl nt n) (hw2 : w ≤ 2) (hX : XV P w nc nl nt n X) (hJ : XJ X (xN X + 1)) (hm : EXm P w nc nl nt n fw X σ) (hk : 1 ≤ k ∧ k ≤ 5) (hL : LV O Q a e) (hM : LM σ O Q a e) (hL2 : k = 5 → a2 = e ∧ LV O Q a2 e2 ∧ LM σ O Q a2 e2) {v4 v5 : Int32} (h4 : k = 5 → v4 = nI (400 + e)) (h5 : v5 = nI (400 + (if k = 5 then e2 else e))) :
    ∃ (σ' : qS) (sh : Int32), L_X12_judge_306 en (d + 6) (nI k) (bt fr) (nI (400 + a)) v4 v5 σ = some (some (.int (bt (jdH k sh))), σ') ∧ jdP P w nt X O Q a e a2 e2 fr k sh ∧ σ'.1 151 131 = sh ∧ EXm P w nc nl nt n fw X σ' ∧ jgF σ σ' := by
  have hlim := @lim_le w
  have hxN := hX.1.2
  have hNT : ∀ v, v < xN X → ∀ t, nt ≤ t → t < 4 → ¬ (mJ P w nt X v).testBit t = true := fun v hv t h1 h2 => by
    rw [mJ_bit h2, rdl_thr hP (hX.2.1 v hv) nt (Nat.le_refl _) h1]; decide
  -- the end of a judgement
  have f448 : ∀ (b : Bool) (s : qS), L_X12_judge_448 en (d + 6) (bt b) s = some (some (.int (bt b)), s) := fun b s => by
    refine le_X12_judge_448 en _ _ _ _ ?_
    rw [m_truth, bI_some]
  have wr : ∀ (s : qS) (x : Int32), jgF s (uI s 151 131 x) := fun s x => ⟨fun c h1 _ _ _ => uI_ne h1, fun j _ _ _ _ _ h6 _ => by rw [rdU, if_neg (fun z => h6 z.2)], rfl⟩
  have wr_at : ∀ (s : qS) (x : Int32), (uI s 151 131 x).1 151 131 = x := fun s x => by rw [rdU, if_pos ⟨rfl, rfl⟩]
  -- always, never, may
  have near : ∀ s, jgF σ s → (∀ v, v < xN X → s.1 233 v = bt (lawB P w nt X O Q a e v)) → k ≤ 3 → ∃ (σ' : qS) (sh : Int32), L_X12_judge_347 en (d + 6) (nI k) (bt fr) s = some (some (.int (bt (jdH k sh))), σ') ∧ jdP P w nt X O Q a e a2 e2 fr k sh ∧ σ'.1 151 131 = sh ∧ EXm P w nc nl nt n fw X σ' ∧ jgF σ σ' := fun s hF h3 hk3 => by
    have hF1 := hF.tr' (wr s (-2))
    have hm1 := jgF.ex hm hF1
    have h101 : (uI s 151 131 (-2)).1 151 101 = nI (xN X) := hm1.flat.1.2.2.1.1
    have h233 : ∀ v, v < xN X → (uI s 151 131 (-2)).1 233 v = bt (lawB P w nt X O Q a e v) := fun v hv => by rw [uI_ne (by decide)]; exact h3 v hv
    have go : ∀ (c : Bool) (sh : Int32), c = !decide (k = 1) → sh = lsV (fun u => lawB P w nt X O Q a e u == c) (xN X) 0 → L_X12_judge_370 en (d + 6) (nI k) (bt c) (uI s 151 131 (-2)) = some (some (.int (bt (jdH k sh))), uI (uI s 151 131 (-2)) 151 131 sh) := fun c sh hc hsh => by
      refine le_X12_judge_370 en _ _ _ _ _ ?_
      have l1 : qev en (d + 6) 391 [.ref 151, .int (bt c)] (uI s 151 131 (-2)) = some (some (.int sh), uI s 151 131 (-2)) := by
        rw [hsh]
        exact le_X12_leastWith en (d + 5) _ _ _ (m_leastJ (en := en) (by omega) h101 h233 (xN X) 0 (by omega))
      rw [l1, bI_some, nm_eq, wr_at]
      have f390 : ∀ b : Bool, b = decide (sh = -2) → L_X12_judge_390 en (d + 6) (nI k) (bt b) (uI (uI s 151 131 (-2)) 151 131 sh) = some (some (.int (bt (jdH k sh))), uI (uI s 151 131 (-2)) 151 131 sh) := fun b hb => by
        refine le_X12_judge_390 en _ _ _ _ _ ?_
        by_cases q3 : k = 3
        · rw [if_pos (by rw [q3]; rfl)]
          refine le_X12_judge_400 en _ _ _ _ _ ?_
          have : jdH k sh = !b := by show (if k = 3 then _ else _) = _; rw [if_pos q3, hb]
          rw [this]
          cases b
          · rw [if_neg (show ¬ ¬ bt false = (0 : Int32) from not_not_intro rfl)]; exact f448 true _
          · rw [if_pos (by decide)]; exact f448 false _
        · rw [if_neg (by rw [n_eq (by decide) (by omega)]; exact q3)]
          refine le_X12_judge_400 en _ _ _ _ _ ?_
          have : jdH k sh = b := by show (if k = 3 then _ else _) = _; rw [if_neg q3, hb]
          rw [this]
          cases b
          · rw [if_pos (by decide)]; exact f448 false _
          · rw [if_neg (show ¬ ¬ bt true = (1 : Int32) from not_not_intro rfl)]; exact f448 true _
      by_cases qs : sh = -2
      · rw [if_neg (not_not_intro qs)]; exact f390 true (decide_eq_true qs).symm
      · rw [if_pos qs]; exact f390 false (decide_eq_false qs).symm
    have start : ∀ (c : Bool) (r : qR), c = !decide (k = 1) → L_X12_judge_370 en (d + 6) (nI k) (bt c) (uI s 151 131 (-2)) = some r → L_X12_judge_347 en (d + 6) (nI k) (bt fr) s = some r := fun c r hc hr => by
      refine le_X12_judge_347 en _ _ _ _ _ ?_
      rw [nm_eq, if_neg (by rw [n_le (by decide) (by omega)]; omega)]
      by_cases q1 : k = 1
      · rw [if_pos (by rw [q1]; rfl)]
        rw [hc, decide_eq_true q1] at hr; exact hr
      · rw [if_neg (by rw [n_eq (by decide) (by omega)]; exact q1)]
        rw [hc, decide_eq_false q1] at hr; exact hr
    have ends : ∀ c, c = !decide (k = 1) → jdP P w nt X O Q a e a2 e2 fr k (lsV (fun u => lawB P w nt X O Q a e u == c) (xN X) 0) → ∃ (σ' : qS) (sh : Int32), L_X12_judge_347 en (d + 6) (nI k) (bt fr) s = some (some (.int (bt (jdH k sh))), σ') ∧ jdP P w nt X O Q a e a2 e2 fr k sh ∧ σ'.1 151 131 = sh ∧ EXm P w nc nl nt n fw X σ' ∧ jgF σ σ' := fun c hc hj =>
      ⟨_, _, start c _ hc (go c _ hc rfl), hj, wr_at _ _, jgF.ex hm (hF1.tr' (wr _ _)), hF1.tr' (wr _ _)⟩
    by_cases q1 : k = 1
    · exact ends false (by rw [decide_eq_true q1]; rfl) ⟨fun _ => rfl, fun h => absurd h (by omega), fun h => absurd h (by omega), fun h => absurd h (by omega)⟩
    · exact ends true (by rw [decide_eq_false q1]; rfl) ⟨fun h => absurd h q1, fun _ => rfl, fun h => absurd h (by omega), fun h => absurd h (by omega)⟩
  -- must, leads
  have far : ∀ (s : qS) (W B : Nat → Bool), jgF σ s → (∀ v, v < xN X → s.1 233 v = bt (W v)) → 4 ≤ k → (k = 4 → ∀ v, v < xN X → B v = decide (v = 0)) → (k = 5 → ∀ v, v < xN X → s.1 234 v = bt (B v)) → (∀ sh, (∃ p : Nat → Bool, (∀ v, v < xN X → (p v = true ↔ isRJ (xA X) (xaE X) W B (xN X) v ∧ goJ (xA X) (xaE X) (xaT X) W (mJ P w nt X) fr v)) ∧ sh = lsV p (xN X) 0) → jdP P w nt X O Q a e a2 e2 fr k sh) → ∃ (σ' : qS) (sh : Int32), L_X12_judge_347 en (d + 6) (nI k) (bt fr) s = some (some (.int (bt (jdH k sh))), σ') ∧ jdP P w nt X O Q a e a2 e2 fr k sh ∧ σ'.1 151 131 = sh ∧ EXm P w nc nl nt n fw X σ' ∧ jgF σ σ' := fun s W B hF h3 hk4 hB4 hB5 hj => by
    have hF1 := hF.tr' (wr s (-2))
    have hm1 := jgF.ex hm hF1
    have h233 : ∀ v, v < xN X → (uI s 151 131 (-2)).1 233 v = bt (W v) := fun v hv => by rw [uI_ne (by decide)]; exact h3 v hv
    obtain ⟨s2, p, l1, l2, l3⟩ := m_lookWays (en := en) (d := d + 4) (fr := fr) (c1 := decide (k = 4)) (B := B) (m_mjH hP hX hJ hm1 h233) (fun h => hB4 (of_decide_eq_true h)) (fun h v hv => by rw [uI_ne (by decide)]; exact hB5 (by have := of_decide_eq_false h; omega) v hv) hNT
    have hF2 := hF1.tr' (wlF.jg l2)
    refine ⟨uI s2 151 131 (lsV p (xN X) 0), lsV p (xN X) 0, le_X12_judge_347 en _ _ _ _ _ ?_, hj _ ⟨p, l3, rfl⟩, wr_at _ _, jgF.ex hm (hF2.tr' (wr _ _)), hF2.tr' (wr _ _)⟩
    have f425 : L_X12_judge_425 en (d + 6) (bt fr) (bt (decide (k = 4))) (uI s 151 131 (-2)) = some (some (.int (bt (jdH k (lsV p (xN X) 0)))), uI s2 151 131 (lsV p (xN X) 0)) := by
      refine le_X12_judge_425 en _ _ _ _ _ ?_
      rw [l1, bI_some, nm_eq, wr_at]
      have : jdH k (lsV p (xN X) 0) = decide (lsV p (xN X) 0 = -2) := by show (if k = 3 then _ else _) = _; rw [if_neg (by omega)]
      rw [this]
      by_cases qs : lsV p (xN X) 0 = -2
      · rw [if_neg (not_not_intro qs), decide_eq_true qs]; exact f448 true _
      · rw [if_pos qs, decide_eq_false qs]; exact f448 false _
    rw [nm_eq, if_pos (by rw [n_le (by decide) (by omega)]; omega)]
    by_cases q4 : k = 4
    · rw [if_neg (by rw [q4]; exact not_not_intro rfl)]
      rw [decide_eq_true q4] at f425; exact f425
    · rw [if_pos (by rw [n_eq (by decide) (by omega)]; exact q4)]
      rw [decide_eq_false q4] at f425; exact f425
  by_cases q5 : k = 5
  · obtain ⟨ea, hL2', hM2⟩ := hL2 q5
    obtain ⟨s1, y1, y2, y3, y4, y5⟩ := m_layFacts (en := en) (d := d + 1) hP hw2 hX hm hL hM true
    obtain ⟨s2, z1, z2, z3, z4, z5⟩ := m_layFacts (en := en) (d := d + 1) (a := a2) (e := e2) hP hw2 hX (jgF.ex hm y2) hL2' (fun j h1 h2 kk hk' hk2 => by
      obtain ⟨K, k1, k2⟩ := hM2 j h1 h2 kk hk' hk2
      exact ⟨K, by rw [y2.1 161 (by decide) (by decide) (by decide) (by decide)]; exact k1, by rw [y2.1 162 (by decide) (by decide) (by decide) (by decide)]; exact k2⟩) false
    have hF2 := y2.tr' z2
    obtain ⟨σ', sh, w1, w2⟩ := far s2 (lawB P w nt X O Q a2 e2) (lawB P w nt X O Q a e) hF2 z3 (by omega) (fun h => absurd h (by omega)) (fun _ v hv => by
      have : s2.1 234 = s1.1 234 := z4
      rw [this]; exact y3 v hv) (fun sh hsh => ⟨fun h => absurd h (by omega), fun h => absurd h (by omega), fun h => absurd h (by omega), fun _ => hsh⟩)
    refine ⟨σ', sh, le_X12_judge_306 en _ _ _ _ _ _ _ _ ?_, w2⟩
    rw [if_neg (by rw [q5]; exact not_not_intro rfl)]
    refine le_X12_judge_320 en _ _ _ _ _ _ _ _ _ ?_
    rw [if_neg (by rw [q5]; exact not_not_intro rfl)]
    refine le_X12_judge_330 en _ _ _ _ _ _ _ _ _ _ ?_
    have y1' : qev en (d + 6) 390 [.ref 151, .int (nI (400 + a)), .int (nI (400 + e)), .int (1 : Int32)] σ = some (none, s1) := y1
    have z1' : qev en (d + 6) 390 [.ref 151, .int (nI (400 + a2)), .int (nI (400 + e2)), .int (0 : Int32)] s1 = some (none, s2) := z1
    rw [h4 q5, y1', bV_some, if_neg (by rw [q5]; exact not_not_intro rfl), h5, if_pos q5, ← ea, z1', bV_some]
    exact w1
  · obtain ⟨s1, y1, y2, y3, y4, y5⟩ := m_layFacts (en := en) (d := d + 1) hP hw2 hX hm hL hM false
    have main : ∃ (σ' : qS) (sh : Int32), L_X12_judge_347 en (d + 6) (nI k) (bt fr) s1 = some (some (.int (bt (jdH k sh))), σ') ∧ jdP P w nt X O Q a e a2 e2 fr k sh ∧ σ'.1 151 131 = sh ∧ EXm P w nc nl nt n fw X σ' ∧ jgF σ σ' := by
      by_cases q4 : k = 4
      · exact far s1 (lawB P w nt X O Q a e) (fun v => decide (v = 0)) y2 y3 (by omega) (fun _ _ _ => rfl) (fun h => absurd h q5) (fun sh hsh => ⟨fun h => absurd h (by omega), fun h => absurd h (by omega), fun _ => hsh, fun h => absurd h q5⟩)
      · exact near s1 y2 y3 (by omega)
    obtain ⟨σ', sh, w1, w2⟩ := main
    refine ⟨σ', sh, le_X12_judge_306 en _ _ _ _ _ _ _ _ ?_, w2⟩
    rw [if_pos (by rw [n_eq (by decide) (by omega)]; exact q5)]
    refine le_X12_judge_320 en _ _ _ _ _ _ _ _ _ ?_
    rw [if_pos (by rw [n_eq (by decide) (by omega)]; exact q5)]
    refine le_X12_judge_330 en _ _ _ _ _ _ _ _ _ _ ?_
    have y1' : qev en (d + 6) 390 [.ref 151, .int (nI (400 + a)), .int (nI (400 + e)), .int (0 : Int32)] σ = some (none, s1) := y1
    rw [h5, if_neg q5, y1', bV_some, if_pos (by rw [n_eq (by decide) (by omega)]; exact q5)]
    exact w1
end JGN
