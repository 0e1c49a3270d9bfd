/-! THE HISTORY of a run, the class's side: gathered. -/
abbrev gaT : Type := Nat × (Nat → fI) × fI
/-- what a step of the run does to the calls: f the steps' rows, ki ai the words that change and ask -/
def gstep (P f : Nat → fI) (ki ai : Int32) (i : Nat) (x : gaT) : Option gaT :=
  if f 3 i = 15 then (if 0 ≤ x.2.2 (clp (f 0 i)) then none else if P 16 (clp (f 2 i)) = ki ∨ P 16 (clp (f 2 i)) = ai then some (x.1 + 1, stR x.2.1 x.1 (gcV (f 0 i) (P 16 (clp (f 2 i))) (f 5 i) (nI i)), upd x.2.2 (clp (f 0 i)) (nI x.1)) else none)
  else if f 3 i = 16 then (if 0 ≤ x.2.2 (clp (f 0 i)) then some (x.1, updR (updR x.2.1 4 (clp (x.2.2 (clp (f 0 i)))) (nI i)) 5 (clp (x.2.2 (clp (f 0 i)))) (f 5 i), upd x.2.2 (clp (f 0 i)) (-1)) else none)
  else some x
def gth (P f : Nat → fI) (ki ai : Int32) : Nat → Nat → gaT → Option gaT
  | 0, _, x => some x
  | m + 1, i, x => match gstep P f ki ai i x with
    | none => none
    | some y => gth P f ki ai m (i + 1) y
abbrev gaK (x : gaT) (i : Nat) : Prop := x.1 ≤ i ∧ ∀ t, t < 4 → x.2.2 t < 0 ∨ ∃ q, q < 200 ∧ x.2.2 t = nI q
section GX
variable {en : pN} {d : Nat} {σ : qS} {P f : Nat → fI} {p len i : Nat} {ki ai : Int32} {x y : gaT}
theorem gaK_s (h : gaK x i) (hi : i < 200) (hs : gstep P f ki ai i x = some y) : gaK y (i + 1) := by
  obtain ⟨h1, h2⟩ := h
  unfold gstep at hs
  by_cases a : f 3 i = 15
  · rw [if_pos a] at hs
    by_cases b : 0 ≤ x.2.2 (clp (f 0 i))
    · rw [if_pos b] at hs; exact absurd hs (by intro z; cases z)
    · rw [if_neg b] at hs
      by_cases c : P 16 (clp (f 2 i)) = ki ∨ P 16 (clp (f 2 i)) = ai
      · rw [if_pos c] at hs
        cases hs
        refine ⟨Nat.succ_le_succ h1, fun t ht => ?_⟩
        by_cases q : t = clp (f 0 i)
        · right; exact ⟨x.1, by omega, by rw [q]; exact pk_us⟩
        · show upd x.2.2 _ _ t < 0 ∨ ∃ q, q < 200 ∧ upd x.2.2 _ _ t = nI q
          rw [pk_un q]; exact h2 t ht
      · rw [if_neg c] at hs; exact absurd hs (by intro z; cases z)
  · rw [if_neg a] at hs
    by_cases b : f 3 i = 16
    · rw [if_pos b] at hs
      by_cases c : 0 ≤ x.2.2 (clp (f 0 i))
      · rw [if_pos c] at hs
        cases hs
        refine ⟨Nat.le_succ_of_le h1, fun t ht => ?_⟩
        by_cases q : t = clp (f 0 i)
        · left
          show upd x.2.2 _ _ t < 0
          rw [q, pk_us]; decide
        · show upd x.2.2 _ _ t < 0 ∨ ∃ q, q < 200 ∧ upd x.2.2 _ _ t = nI q
          rw [pk_un q]; exact h2 t ht
      · rw [if_neg c] at hs; exact absurd hs (by intro z; cases z)
    · rw [if_neg b] at hs
      cases hs
      exact ⟨Nat.le_succ_of_le h1, h2⟩
theorem gS_10 {n : Int32} {C : Nat → fI} {O : fI} : (gS σ n C O).1 125 10 = σ.1 125 10 := by
  show (if 127 ≤ 125 ∧ 125 < 133 then C (125 - 127) 10 else if (125 : Nat) = 148 then O 10 else if (125 : Nat) = 125 ∧ (10 : Nat) = 8 then n else σ.1 125 10) = _
  rw [if_neg (by omega), if_neg (by omega), if_neg (by omega)]
theorem x_gather15 {st : Nat} (hf : ∀ k, k < 6 → σ.1 (118 + k) = f k) (hl : σ.1 111 3 = nI len) (hlen : len ≤ 200) (hr : σ.2.2 112 7 = p + 1) (hp : lc p = 5) (hp2 : p = 11 ∨ p = 36) (h16 : σ.1 (p + 16) = P 16) (hst : st ≤ 3) (hs : σ.1 125 10 = nI st) (hki : ki = (([0, 2, 3, 5] : List Int32).getD st 0)) (hai : ai = (([1, 1, 4, 6] : List Int32).getD st 0)) (hft : ∀ i, i < len → ∃ t, t < 4 ∧ f 0 i = nI t) (hfl : ∀ i, i < len → f 3 i = 15 → ∃ l, l < 100 ∧ f 2 i = nI l) : ∀ (m i : Nat) (x : gaT), i + m = len → gaK x i → (gth P f ki ai m i x = none → ∃ y : gaT, L_X1_gather_15 en (d + 1) (nI i) (gS σ (nI x.1) x.2.1 x.2.2) = some (some (.int 0), gS σ (nI y.1) y.2.1 y.2.2)) ∧ (∀ y, gth P f ki ai m i x = some y → L_X1_gather_15 en (d + 1) (nI i) (gS σ (nI x.1) x.2.1 x.2.2) = some (some (.int 1), gS σ (nI y.1) y.2.1 y.2.2)) := by
  have rl : ∀ (n : Int32) (C : Nat → fI) (O : fI), (gS σ n C O).1 111 3 = nI len := fun n C O => by rw [gS_o (by decide) (by decide) (by decide)]; exact hl
  have r0 : ∀ (n : Int32) (C : Nat → fI) (O : fI), (gS σ n C O).1 118 = f 0 := fun n C O => by rw [gS_o (by decide) (by decide) (by decide)]; exact hf 0 (by decide)
  have r2 : ∀ (n : Int32) (C : Nat → fI) (O : fI), (gS σ n C O).1 120 = f 2 := fun n C O => by rw [gS_o (by decide) (by decide) (by decide)]; exact hf 2 (by decide)
  have r3 : ∀ (n : Int32) (C : Nat → fI) (O : fI), (gS σ n C O).1 121 = f 3 := fun n C O => by rw [gS_o (by decide) (by decide) (by decide)]; exact hf 3 (by decide)
  have r5 : ∀ (n : Int32) (C : Nat → fI) (O : fI), (gS σ n C O).1 123 = f 5 := fun n C O => by rw [gS_o (by decide) (by decide) (by decide)]; exact hf 5 (by decide)
  have r7 : ∀ (n : Int32) (C : Nat → fI) (O : fI), (gS σ n C O).2.2 112 7 = p + 1 := fun n C O => hr
  have rp : ∀ (n : Int32) (C : Nat → fI) (O : fI), (gS σ n C O).1 (p + 16) = P 16 := fun n C O => by rw [gS_o (by omega) (by omega) (by omega)]; exact h16
  have rs : ∀ (n : Int32) (C : Nat → fI) (O : fI), (gS σ n C O).1 125 10 = nI st := fun n C O => gS_10.trans hs
  intro m
  induction m with
  | zero =>
    intro i x hi hx
    refine ⟨fun z => (by cases z), fun y hy => ?_⟩
    cases hy
    refine le_X1_gather_15 en (d + 1) _ _ _ ?_
    rw [rl, if_pos (by rw [n_LE (by omega) (by omega)]; omega)]
  | succ m ih =>
    intro i x hi hx
    obtain ⟨t, ht, et⟩ := hft i (by omega)
    have ec : clp (f 0 i) = t := by rw [et]; exact n_clp (by omega)
    have ecn : (nI i).toNatClampNeg = i := n_cl (by omega)
    have etn : (nI t).toNatClampNeg = t := n_cl (by omega)
    have gi : p_inB (nI i) 200 = true := n_in (by omega) (by decide)
    have gt : p_inB (nI t) 4 = true := n_in ht (by decide)
    have nle : ¬ nI len ≤ nI i := by rw [n_LE (by omega) (by omega)]; omega
    -- the next step
    have nxt : ∀ y, gstep P f ki ai i x = some y → (∀ r, L_X1_gather_15 en (d + 1) (nI (i + 1)) (gS σ (nI y.1) y.2.1 y.2.2) = some r → L_X1_gather_15 en (d + 1) (nI i) (gS σ (nI x.1) x.2.1 x.2.2) = some r) → (gth P f ki ai (m + 1) i x = none → ∃ y : gaT, L_X1_gather_15 en (d + 1) (nI i) (gS σ (nI x.1) x.2.1 x.2.2) = some (some (.int 0), gS σ (nI y.1) y.2.1 y.2.2)) ∧ (∀ y, gth P f ki ai (m + 1) i x = some y → L_X1_gather_15 en (d + 1) (nI i) (gS σ (nI x.1) x.2.1 x.2.2) = some (some (.int 1), gS σ (nI y.1) y.2.1 y.2.2)) := by
      intro y hy hh
      obtain ⟨g1, g2⟩ := ih (i + 1) y (by omega) (gaK_s hx (by omega) hy)
      have eg : gth P f ki ai (m + 1) i x = gth P f ki ai m (i + 1) y := by
        show (match gstep P f ki ai i x with
          | none => none
          | some y => gth P f ki ai m (i + 1) y) = _
        rw [hy]
      rw [eg]
      refine ⟨fun z => ?_, fun z hz => hh _ (g2 z hz)⟩
      obtain ⟨w, hw⟩ := g1 z
      exact ⟨w, hh _ hw⟩
    have brk : gstep P f ki ai i x = none → L_X1_gather_15 en (d + 1) (nI i) (gS σ (nI x.1) x.2.1 x.2.2) = some (some (.int 0), gS σ (nI x.1) x.2.1 x.2.2) → (gth P f ki ai (m + 1) i x = none → ∃ y : gaT, L_X1_gather_15 en (d + 1) (nI i) (gS σ (nI x.1) x.2.1 x.2.2) = some (some (.int 0), gS σ (nI y.1) y.2.1 y.2.2)) ∧ (∀ y, gth P f ki ai (m + 1) i x = some y → L_X1_gather_15 en (d + 1) (nI i) (gS σ (nI x.1) x.2.1 x.2.2) = some (some (.int 1), gS σ (nI y.1) y.2.1 y.2.2)) := by
      intro hy hh
      have eg : gth P f ki ai (m + 1) i x = none := by
        show (match gstep P f ki ai i x with
          | none => none
          | some y => gth P f ki ai m (i + 1) y) = _
        rw [hy]
      rw [eg]
      exact ⟨fun _ => ⟨x, hh⟩, fun z hz => (by cases hz)⟩
    have hx2 := hx.2 t ht
    by_cases a : f 3 i = 15
    · obtain ⟨l, hl1, el⟩ := hfl i (by omega) a
      have elc : clp (f 2 i) = l := by rw [el]; exact n_clp (by omega)
      have eln : (nI l).toNatClampNeg = l := n_cl (by omega)
      have gl : p_inB (nI l) 100 = true := n_in hl1 (by decide)
      have gs : p_inB (nI st) 4 = true := n_in (by omega) (by decide)
      have esn : (nI st).toNatClampNeg = st := n_cl (by omega)
      have head : ∀ r, (if 0 ≤ x.2.2 t then some (some (Value.int (0 : Int32)), gS σ (nI x.1) x.2.1 x.2.2) else (if P 16 l = ki then L_X1_gather_106 en (d + 1) (nI i) (nI t) (P 16 l) (gS σ (nI x.1) x.2.1 x.2.2) else if P 16 l = ai then L_X1_gather_106 en (d + 1) (nI i) (nI t) (P 16 l) (gS σ (nI x.1) x.2.1 x.2.2) else some (some (Value.int (0 : Int32)), gS σ (nI x.1) x.2.1 x.2.2)) : Option qR) = some r → L_X1_gather_15 en (d + 1) (nI i) (gS σ (nI x.1) x.2.1 x.2.2) = some r := by
        intro r hh
        refine le_X1_gather_15 en (d + 1) _ _ _ ?_
        simp only [nm_eq, rl, r0, r2, r3, r7, ecn, et, etn, el, eln, gS_O, rs, esn]
        rw [if_neg nle, gd_true gi, if_neg (fun z => z a), gd_true ⟨by omega, by rw [show p + 1 - 1 = p from rfl]; exact hp⟩, gd_true gl, gd_true gt, gd_true gs, show p + 1 - 1 = p from rfl, rp, ← hki, ← hai]
        exact hh
      by_cases o : 0 ≤ x.2.2 t
      · refine brk (by unfold gstep; rw [if_pos a, ec, if_pos o]) (head _ ?_)
        rw [if_pos o]
      · by_cases c : P 16 l = ki ∨ P 16 l = ai
        · refine nxt (x.1 + 1, stR x.2.1 x.1 (gcV (f 0 i) (P 16 (clp (f 2 i))) (f 5 i) (nI i)), upd x.2.2 (clp (f 0 i)) (nI x.1)) (by unfold gstep; rw [if_pos a, ec, elc, if_neg o, if_pos c]) (fun r hh => head _ ?_)
          have l106 : L_X1_gather_106 en (d + 1) (nI i) (nI t) (P 16 l) (gS σ (nI x.1) x.2.1 x.2.2) = some r := by
            refine le_X1_gather_106 en (d + 1) _ _ _ _ _ ?_
            rw [gd_true gt, nm_eq, gS_n, etn, gS_wO, gd_true gi, r5, ecn, x_addCall (by have := hx.1; omega), bV_some, n_ar]
            rw [ec, elc, et] at hh
            exact hh
          rw [if_neg o]
          rcases c with c | c
          · rw [if_pos c]; exact l106
          · by_cases c' : P 16 l = ki
            · rw [if_pos c']; exact l106
            · rw [if_neg c', if_pos c]; exact l106
        · refine brk (by unfold gstep; rw [if_pos a, ec, elc, if_neg o, if_neg c]) (head _ ?_)
          rw [if_neg o, if_neg (fun z => c (Or.inl z)), if_neg (fun z => c (Or.inr z))]
    · by_cases b : f 3 i = 16
      · by_cases o : 0 ≤ x.2.2 t
        · obtain ⟨q, hq, eq⟩ := hx2.resolve_left (fun z => Int32.not_lt.mpr o z)
          have eqc : clp (x.2.2 t) = q := by rw [eq]; exact n_clp (by omega)
          have eqn : (x.2.2 t).toNatClampNeg = q := by rw [eq]; exact n_cl (by omega)
          have gq : p_inB (x.2.2 t) 200 = true := by rw [eq]; exact n_in hq (by decide)
          refine nxt (x.1, updR (updR x.2.1 4 (clp (x.2.2 (clp (f 0 i)))) (nI i)) 5 (clp (x.2.2 (clp (f 0 i)))) (f 5 i), upd x.2.2 (clp (f 0 i)) (-1)) (by unfold gstep; rw [if_neg a, if_pos b, if_pos (by rw [ec]; exact o)]) (fun r hh => ?_)
          rw [ec, eqc] at hh
          refine le_X1_gather_15 en (d + 1) _ _ _ ?_
          simp only [nm_eq, rl, r0, r3, ecn, et, etn, gS_O, gS_w4, gS_w5, gS_wO, r5, eqn]
          rw [if_neg nle, gd_true gi, if_pos a, if_neg (fun z => z b), gd_true gt, if_pos o, gd_true gq, gd_true gq, n_ar]
          exact hh
        · refine brk (by unfold gstep; rw [if_neg a, if_pos b, ec, if_neg o]) ?_
          refine le_X1_gather_15 en (d + 1) _ _ _ ?_
          simp only [nm_eq, rl, r0, r3, ecn, et, etn, gS_O]
          rw [if_neg nle, gd_true gi, if_pos a, if_neg (fun z => z b), gd_true gt, if_neg o]
      · refine nxt x (by unfold gstep; rw [if_neg a, if_neg b]) (fun r hh => ?_)
        refine le_X1_gather_15 en (d + 1) _ _ _ ?_
        rw [rl, if_neg nle, gd_true gi]
        show (if ¬ (gS σ (nI x.1) x.2.1 x.2.2).1 121 (nI i).toNatClampNeg = 15 then _ else _) = _
        rw [r3, ecn, if_pos a, if_pos b, n_ar]
        exact hh
end GX
