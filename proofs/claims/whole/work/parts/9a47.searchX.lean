/-! THE HISTORY, the class's side: the search. -/
/-- what a search m deep leaves as it was -/
abbrev frE (m : Nat) (s s' : qS) : Prop := (∀ a, a ≠ 125 → a ≠ 147 → a ≠ 149 → (a ≤ 134 + m ∨ 147 ≤ a) → s'.1 a = s.1 a) ∧ (∀ k, k ≠ 7 → s'.1 125 k = s.1 125 k) ∧ (∀ e, e ≤ m → s'.1 147 e = s.1 147 e) ∧ (∀ e, e < m → s'.1 149 e = s.1 149 e) ∧ s'.2 = s.2
theorem frE.rf {m : Nat} {s : qS} : frE m s s := ⟨fun _ _ _ _ _ => rfl, fun _ _ => rfl, fun _ _ => rfl, fun _ _ => rfl, rfl⟩
theorem frE.tr {m : Nat} {s t u : qS} (h : frE m s t) (g : frE m t u) : frE m s u := ⟨fun a h1 h2 h3 h4 => (g.1 a h1 h2 h3 h4).trans (h.1 a h1 h2 h3 h4), fun k hk => (g.2.1 k hk).trans (h.2.1 k hk), fun e he => (g.2.2.1 e he).trans (h.2.2.1 e he), fun e he => (g.2.2.2.1 e he).trans (h.2.2.2.1 e he), g.2.2.2.2.trans h.2.2.2.2⟩
theorem frE.lo {m : Nat} {s t : qS} (h : frE (m + 1) s t) : frE m s t := ⟨fun a h1 h2 h3 h4 => h.1 a h1 h2 h3 (by omega), h.2.1, fun e he => h.2.2.1 e (by omega), fun e he => h.2.2.2.1 e (by omega), h.2.2.2.2⟩
abbrev exI (st : Nat) (C : Nat → fI) (H0 : fI) (n : Nat) (RL : List Nat) (s : qS) (L : List Nat) (x : Int32) : Prop := s.1 125 8 = nI n ∧ s.1 125 10 = nI st ∧ (∀ r, r < 6 → s.1 (127 + r) = C r) ∧ MK (s.1 125 9) RL ∧ MK x L ∧ (∀ k, k < 13 → s.1 (134 + L.length) k = (cnt st C H0 L).1 k) ∧ s.1 147 L.length = nI (cnt st C H0 L).2.1 ∧ (∀ e, e < L.length → s.1 149 e = nI (L.reverse.getD e 0)) ∧ ∀ i ∈ L, i < n
abbrev exT (s' : qS) (M : List Nat) : Prop := s'.1 125 7 = nI M.length ∧ M.length ≤ 12 ∧ ∀ e, e < M.length → s'.1 149 e = nI (M.reverse.getD e 0)
section EX
variable {en : pN} {d st n i f : Nat} {C : Nat → fI} {H0 : fI} {RL L : List Nat} {x : Int32} {s s' : qS}
theorem exI.fr (h : exI st C H0 n RL s L x) (g : frE L.length s s') (hL : L.length ≤ 12) : exI st C H0 n RL s' L x := by
  obtain ⟨h1, h2, h3, h4, h5, h6, h7, h8, h9⟩ := h
  refine ⟨by rw [g.2.1 8 (by decide)]; exact h1, by rw [g.2.1 10 (by decide)]; exact h2, fun r hr => by rw [g.1 _ (by omega) (by omega) (by omega) (by omega)]; exact h3 r hr, by rw [g.2.1 9 (by decide)]; exact h4, h5, fun k hk => by rw [g.1 _ (by omega) (by omega) (by omega) (by omega)]; exact h6 k hk, by rw [g.2.2.1 _ (Nat.le_refl _)]; exact h7, fun e he => by rw [g.2.2.2.1 e he]; exact h8 e he, h9⟩
theorem rev_at {e : Nat} : (i :: L).reverse.getD e 0 = if e < L.length then L.reverse.getD e 0 else if e = L.length then i else 0 := by
  rw [List.reverse_cons, List.getD_eq_getElem?_getD, List.getElem?_append, List.length_reverse]
  by_cases a : e < L.length
  · rw [if_pos a, if_pos a, List.getD_eq_getElem?_getD]
  · rw [if_neg a, if_neg a]
    by_cases b : e = L.length
    · rw [if_pos b, b, Nat.sub_self]; rfl
    · rw [if_neg b]
      have : e - L.length = (e - L.length - 1) + 1 := by omega
      rw [this]; rfl
/-- a call placed, given what comes behind it -/
theorem x_place (hn : n ≤ 12) (hi : i < n) (hL : L.length + (f + 1) = 12) (h : exI st C H0 n RL s L x) (hst : st ≤ 3)
    (ih : ∀ (x : Int32) (s : qS), exI st C H0 n RL s (i :: L) x → ∃ s', qev en (d + 2 * f + 3) 14 [.ref 125, .int (nI (i :: L).length), .int x] s = some (some (.int (bt (srch st C H0 n f (i :: L)).isSome)), s') ∧ frE (i :: L).length s s' ∧ ∀ M, srch st C H0 n f (i :: L) = some M → exT s' M) :
    ∃ s', qev en (d + 2 * f + 4) 15 [.ref 125, .int (nI i), .int (nI L.length), .int x] s = some (some (.int (bt (fitB st C H0 L i && (srch st C H0 n f (i :: L)).isSome))), s') ∧ frE L.length s s' ∧ ∀ M, fitB st C H0 L i = true → srch st C H0 n f (i :: L) = some M → exT s' M := by
  have hq := h
  obtain ⟨h1, h2, h3, h4, h5, h6, h7, h8, h9⟩ := h
  have hz : (cnt st C H0 L).2.1 ≤ 12 := Nat.le_trans cnt_z (by omega)
  obtain ⟨T', e1, t1⟩ := x_perform (en := en) (d := d + 2 * f + 2) (i := i) (e := L.length) (st := st) (z := (cnt st C H0 L).2.1) (s := s) (H := s.1 (134 + L.length)) (by omega) (by omega) h2 hst rfl hz h7
  rw [show s.1 128 = C 1 from h3 1 (by decide), show s.1 129 = C 2 from h3 2 (by decide)] at e1 t1
  obtain ⟨p1, p2⟩ := pfm_cg (st := st) (c := decide (C 1 i = kiS st)) (v := C 2 i) hz h6
  rw [p1] at e1
  have e1 : qev en (d + 2 * f + 3) 17 [.ref 125, .int (nI i), .int (nI L.length)] s = some (some (.int (cnt st C H0 (i :: L)).2.2), pS s (134 + (L.length + 1)) (L.length + 1) T' (nI (cnt st C H0 (i :: L)).2.1)) := e1
  have t2 : ∀ k, k < 13 → T' k = (cnt st C H0 (i :: L)).1 k := fun k hk => (t1 k hk).trans (p2 k hk)
  have hb : 134 + (L.length + 1) ≠ 147 := by omega
  have fr0 : ∀ Z, frE L.length s (pS s (134 + (L.length + 1)) (L.length + 1) T' Z) := fun Z => ⟨fun a g1 g2 g3 g4 => pS_o (by omega) g2, fun k _ => by rw [pS_o (by omega) (by decide)], fun e he => by
      show (if 147 = 134 + (L.length + 1) then T' e else if 147 = 147 ∧ e = L.length + 1 then Z else s.1 147 e) = _
      rw [if_neg (by omega), if_neg (by omega)], fun e _ => by rw [pS_o (by omega) (by decide)], rfl⟩
  refine (fun (g : ∃ s', L_X1_place_34 en (d + 2 * f + 3) (nI i) (nI L.length) x (pS s (134 + (L.length + 1)) (L.length + 1) T' (nI (cnt st C H0 (i :: L)).2.1)) = some (some (.int (bt (srch st C H0 n f (i :: L)).isSome)), s') ∧ frE L.length s s' ∧ ∀ M, srch st C H0 n f (i :: L) = some M → exT s' M) => ?_) ?_
  · obtain ⟨s', g1, g2, g3⟩ := g
    have e4 : (pS s (134 + (L.length + 1)) (L.length + 1) T' (nI (cnt st C H0 (i :: L)).2.1)).1 131 = C 4 := (pS_o (by omega) (by decide)).trans (h3 4 (by decide))
    have e5 : (pS s (134 + (L.length + 1)) (L.length + 1) T' (nI (cnt st C H0 (i :: L)).2.1)).1 132 = C 5 := (pS_o (by omega) (by decide)).trans (h3 5 (by decide))
    by_cases ft : fitB st C H0 L i = true
    · refine ⟨s', le_X1_place en (d + 2 * f + 3) _ _ _ _ _ ?_, g2, fun M _ hM => g3 M hM⟩
      rw [e1, bI_some, gd_true (n_in (by omega) (by decide)), n_cl (by omega), e4, e5, ft, Bool.true_and]
      unfold fitB at ft
      rw [Bool.or_eq_true, decide_eq_true_eq, decide_eq_true_eq] at ft
      by_cases a : C 4 i < 0
      · rw [if_pos a]; exact g1
      · rw [if_neg a, if_pos (ft.resolve_left a)]; exact g1
    · have ft' : fitB st C H0 L i = false := by simpa using ft
      refine ⟨pS s (134 + (L.length + 1)) (L.length + 1) T' (nI (cnt st C H0 (i :: L)).2.1), le_X1_place en (d + 2 * f + 3) _ _ _ _ _ ?_, fr0 _, fun M w => absurd w ft⟩
      rw [e1, bI_some, gd_true (n_in (by omega) (by decide)), n_cl (by omega), e4, e5, ft', Bool.false_and]
      unfold fitB at ft
      rw [Bool.or_eq_true, decide_eq_true_eq, decide_eq_true_eq] at ft
      rw [if_neg (fun w => ft (Or.inl w)), if_neg (fun w => ft (Or.inr w))]
      rfl
  · have F1 : frE L.length s (uI (pS s (134 + (L.length + 1)) (L.length + 1) T' (nI (cnt st C H0 (i :: L)).2.1)) 149 L.length (nI i)) := by
      have F0 := fr0 (nI (cnt st C H0 (i :: L)).2.1)
      refine ⟨fun a g1 g2 g3 g4 => (uI_ne g3).trans (F0.1 a g1 g2 g3 g4), fun k hk => by rw [uI_ne (by decide)]; exact F0.2.1 k hk, fun e he => by rw [uI_ne (by decide)]; exact F0.2.2.1 e he, fun e he => by rw [g_I, if_neg (by omega)]; exact F0.2.2.2.1 e he, F0.2.2.2.2⟩
    obtain ⟨s', g1, g2, g3⟩ := ih (x ||| ((1 : Int32) <<< (nI i &&& 31))) (uI (pS s (134 + (L.length + 1)) (L.length + 1) T' (nI (cnt st C H0 (i :: L)).2.1)) 149 L.length (nI i)) ⟨(F1.2.1 8 (by decide)).trans h1, (F1.2.1 10 (by decide)).trans h2, fun r hr => (F1.1 _ (by omega) (by omega) (by omega) (by omega)).trans (h3 r hr), by rw [F1.2.1 9 (by decide)]; exact h4, MK_cons h5 (by omega), fun k hk => by
        rw [uI_ne (by show 134 + (L.length + 1) ≠ 149; omega)]
        exact (congrFun pS_T k).trans (t2 k hk), by
        rw [uI_ne (by decide)]
        show (if 147 = 134 + (L.length + 1) then T' (L.length + 1) else if 147 = 147 ∧ L.length + 1 = L.length + 1 then _ else s.1 147 (L.length + 1)) = _
        rw [if_neg (by omega), if_pos ⟨rfl, rfl⟩], fun e he => by
        rw [rev_at, g_I]
        have he : e < L.length + 1 := he
        by_cases q : e < L.length
        · rw [if_neg (by omega), if_pos q]
          exact (fr0 _).2.2.2.1 e q |>.trans (h8 e q)
        · obtain rfl : e = L.length := by omega
          rw [if_pos ⟨rfl, rfl⟩, if_neg q, if_pos rfl], fun j hj => (List.mem_cons.mp hj).elim (fun z => z ▸ hi) (h9 j)⟩
    refine ⟨s', le_X1_place_34 en (d + 2 * f + 3) _ _ _ _ _ ?_, F1.tr g2.lo, g3⟩
    rw [gd_true (n_in (by omega) (by decide)), nm_eq, n_cl (by omega), n_ar, show nI (L.length + 1) = nI (i :: L).length from rfl, g1, bI_some, gd_true (by cases (srch st C H0 n f (i :: L)).isSome <;> simp [bt])]
/-- the calls from i on tried -/
theorem x_tries (hn : n ≤ 12) (hL : L.length + (f + 1) = 12) (hst : st ≤ 3)
    (ih : ∀ (i : Nat) (x : Int32) (s : qS), i < n → exI st C H0 n RL s (i :: L) x → ∃ s', qev en (d + 2 * f + 3) 14 [.ref 125, .int (nI (i :: L).length), .int x] s = some (some (.int (bt (srch st C H0 n f (i :: L)).isSome)), s') ∧ frE (i :: L).length s s' ∧ ∀ M, srch st C H0 n f (i :: L) = some M → exT s' M) :
    ∀ (k i : Nat) (s : qS), i + k = n → exI st C H0 n RL s L x → ∃ s', L_X1_extend_22 en (d + 2 * f + 4) (nI L.length) x (nI i) s = some (some (.int (bt (srI st C H0 n (srch st C H0 n f) L k i).isSome)), s') ∧ frE L.length s s' ∧ ∀ M, srI st C H0 n (srch st C H0 n f) L k i = some M → exT s' M := by
  intro k
  induction k with
  | zero =>
    intro i s hi h
    refine ⟨s, le_X1_extend_22 en _ _ _ _ _ _ ?_, frE.rf, fun M z => by cases z⟩
    rw [h.1, if_pos (by rw [n_LE (by omega) (by omega)]; omega)]
    rfl
  | succ k ihk =>
    intro i s hi h
    have hq := h
    obtain ⟨h1, h2, h3, h4, h5, h6, h7, h8, h9⟩ := h
    obtain ⟨rb, m1, m2⟩ := x_mayBe (en := en) (d := d + 2 * f + 3) (n := n) (i := i) (σ := s) (C := fun r => s.1 (127 + r)) (O := s.1 148) (x := x) (by omega) (by omega)
    rw [← h1, gS_id] at m1
    have m3 : rb = canB C n L i := by
      have : rb = true ↔ canB C n L i = true := by
        rw [m2, canB_iff, MK_plc h5 (by omega)]
        refine and_congr Iff.rfl (forall_congr' fun j => ?_)
        refine ⟨fun z hj hb => (MK_plc h5 (by omega)).mp (z hj ?_), fun z hj hb => (MK_plc h5 (by omega)).mpr (z hj ?_)⟩
        · show ¬ s.1 (127 + 4) j < 0 ∧ ¬ s.1 (127 + 3) i ≤ s.1 (127 + 4) j
          rw [h3 4 (by decide), h3 3 (by decide)]; exact hb
        · have hb : ¬ s.1 (127 + 4) j < 0 ∧ ¬ s.1 (127 + 3) i ≤ s.1 (127 + 4) j := hb
          rw [h3 4 (by decide), h3 3 (by decide)] at hb; exact hb
      cases rb <;> cases h : canB C n L i <;> simp_all
    have start : ∀ r, bI (qev en (d + 2 * f + 4) 16 [.ref 125, .int (nI i), .int x] s) (fun w3 s4 => if w3 = (0 : Int32) then L_X1_extend_22 en (d + 2 * f + 4) (nI L.length) x (nI i + (1 : Int32)) s4 else bI (qev en (d + 2 * f + 4) 15 [.ref 125, .int (nI i), .int (nI L.length), .int x] s4) (fun w7 s8 => if w7 = (0 : Int32) then L_X1_extend_22 en (d + 2 * f + 4) (nI L.length) x (nI i + (1 : Int32)) s8 else some (some (.int (1 : Int32)), s8))) = some r → L_X1_extend_22 en (d + 2 * f + 4) (nI L.length) x (nI i) s = some r := by
      intro r hr
      refine le_X1_extend_22 en _ _ _ _ _ _ ?_
      rw [h1, if_neg (by rw [n_LE (by omega) (by omega)]; omega), if_neg (by rw [n_le (by decide) (by omega)]; omega)]
      exact hr
    have srE : srI st C H0 n (srch st C H0 n f) L (k + 1) i = if canB C n L i && fitB st C H0 L i then (match srch st C H0 n f (i :: L) with
      | some M => some M
      | none => srI st C H0 n (srch st C H0 n f) L k (i + 1)) else srI st C H0 n (srch st C H0 n f) L k (i + 1) := rfl
    by_cases c : canB C n L i = true
    · obtain ⟨s1, p1, p2, p3⟩ := x_place (en := en) (d := d) (i := i) hn (by omega) hL hq hst (fun x s => ih i x s (by omega))
      by_cases g : (fitB st C H0 L i && (srch st C H0 n f (i :: L)).isSome) = true
      · obtain ⟨g1, g2⟩ := Bool.and_eq_true_iff.mp g
        obtain ⟨M, hM⟩ := Option.isSome_iff_exists.mp g2
        have e : srI st C H0 n (srch st C H0 n f) L (k + 1) i = some M := by
          rw [srE, c, g1, hM]; rfl
        refine ⟨s1, start _ ?_, p2, fun M' hM' => ?_⟩
        · rw [m1, m3, c, bI_some, if_neg (by decide), p1, g, bI_some, if_neg (by decide), e]; rfl
        · rw [e] at hM'
          cases hM'
          exact p3 M g1 hM
      · have g' : (fitB st C H0 L i && (srch st C H0 n f (i :: L)).isSome) = false := by simpa using g
        have e : srI st C H0 n (srch st C H0 n f) L (k + 1) i = srI st C H0 n (srch st C H0 n f) L k (i + 1) := by
          rw [srE, c, Bool.true_and]
          by_cases g1 : fitB st C H0 L i = true
          · rw [if_pos g1]
            rw [g1, Bool.true_and] at g'
            have : srch st C H0 n f (i :: L) = none := by simpa using g'
            rw [this]
          · rw [if_neg g1]
        obtain ⟨s2, k1, k2, k3⟩ := ihk (i + 1) s1 (by omega) (hq.fr p2 (by omega))
        refine ⟨s2, start _ ?_, p2.tr k2, fun M hM => k3 M (e ▸ hM)⟩
        rw [m1, m3, c, bI_some, if_neg (by decide), p1, g', bI_some, if_pos (by decide), n_ar, e]
        exact k1
    · have c' : canB C n L i = false := by simpa using c
      have e : srI st C H0 n (srch st C H0 n f) L (k + 1) i = srI st C H0 n (srch st C H0 n f) L k (i + 1) := by
        rw [srE, c', Bool.false_and]; rfl
      obtain ⟨s2, k1, k2, k3⟩ := ihk (i + 1) s (by omega) hq
      refine ⟨s2, start _ ?_, k2, fun M hM => k3 M (e ▸ hM)⟩
      rw [m1, m3, c', bI_some, if_pos (by decide), n_ar, e]
      exact k1
/-- the search as a whole -/
theorem x_ext (hn : n ≤ 12) (hst : st ≤ 3) (hRL : ∀ k, k ∈ RL ↔ k < n ∧ ¬ C 4 k < 0) : ∀ (f : Nat) (L : List Nat) (x : Int32) (s : qS), L.length + f = 12 → exI st C H0 n RL s L x → ∃ s', qev en (d + 2 * f + 3) 14 [.ref 125, .int (nI L.length), .int x] s = some (some (.int (bt (srch st C H0 n f L).isSome)), s') ∧ frE L.length s s' ∧ ∀ M, srch st C H0 n f L = some M → exT s' M := by
  intro f
  induction f with
  | zero =>
    intro L x s hL h
    have hq := h
    obtain ⟨h1, h2, h3, h4, h5, h6, h7, h8, h9⟩ := h
    have fl : fullB C n L = true ↔ (x &&& s.1 125 9) = s.1 125 9 := by
      rw [fullB_iff, MK_and h5 h4 (fun k hk => by have := ((hRL k).mp hk).1; omega)]
      exact ⟨fun z k hk => z k ((hRL k).mp hk).1 ((hRL k).mp hk).2, fun z j hj hb => z j ((hRL j).mpr ⟨hj, hb⟩)⟩
    have e : srch st C H0 n 0 L = if fullB C n L then some L else none := rfl
    by_cases c : fullB C n L = true
    · rw [e, if_pos c]
      refine ⟨uI s 125 7 (nI L.length), le_X1_extend en (d + 2 * 0 + 2) _ _ _ _ ?_, ⟨fun a g1 g2 g3 g4 => uI_ne g1, fun k hk => by rw [g_I, if_neg (fun z => hk z.2)], fun e _ => by rw [uI_ne (by decide)], fun e _ => by rw [uI_ne (by decide)], rfl⟩, fun M hM => ?_⟩
      · rw [if_neg (fun z => z (fl.mp c)), nm_eq]; rfl
      · cases hM
        exact ⟨by rw [g_I, if_pos ⟨rfl, rfl⟩], by omega, fun e he => by rw [uI_ne (by decide)]; exact h8 e he⟩
    · rw [e, if_neg c]
      refine ⟨s, le_X1_extend en (d + 2 * 0 + 2) _ _ _ _ ?_, frE.rf, fun M hM => by cases hM⟩
      rw [if_pos (fun z => c (fl.mpr z))]
      refine le_X1_extend_22 en _ _ _ _ _ _ ?_
      rw [h1]
      by_cases q : nI n ≤ (0 : Int32)
      · rw [if_pos q]; rfl
      · rw [if_neg q, if_pos (by rw [n_le (by decide) (by omega)]; omega)]; rfl
  | succ f ih =>
    intro L x s hL h
    have hq := h
    obtain ⟨h1, h2, h3, h4, h5, h6, h7, h8, h9⟩ := h
    have fl : fullB C n L = true ↔ (x &&& s.1 125 9) = s.1 125 9 := by
      rw [fullB_iff, MK_and h5 h4 (fun k hk => by have := ((hRL k).mp hk).1; omega)]
      exact ⟨fun z k hk => z k ((hRL k).mp hk).1 ((hRL k).mp hk).2, fun z j hj hb => z j ((hRL j).mpr ⟨hj, hb⟩)⟩
    have e : srch st C H0 n (f + 1) L = if fullB C n L then some L else srI st C H0 n (srch st C H0 n f) L n 0 := rfl
    by_cases c : fullB C n L = true
    · rw [e, if_pos c]
      refine ⟨uI s 125 7 (nI L.length), le_X1_extend en (d + 2 * (f + 1) + 2) _ _ _ _ ?_, ⟨fun a g1 g2 g3 g4 => uI_ne g1, fun k hk => by rw [g_I, if_neg (fun z => hk z.2)], fun e _ => by rw [uI_ne (by decide)], fun e _ => by rw [uI_ne (by decide)], rfl⟩, fun M hM => ?_⟩
      · rw [if_neg (fun z => z (fl.mp c)), nm_eq]; rfl
      · cases hM
        exact ⟨by rw [g_I, if_pos ⟨rfl, rfl⟩], by omega, fun e he => by rw [uI_ne (by decide)]; exact h8 e he⟩
    · rw [e, if_neg c]
      obtain ⟨s', t1, t2, t3⟩ := x_tries (en := en) (d := d) (st := st) (C := C) (H0 := H0) (RL := RL) (L := L) (x := x) hn (by omega) hst (fun i x s hi => ih (i :: L) x s (by show L.length + 1 + f = 12; omega)) n 0 s (by omega) hq
      refine ⟨s', le_X1_extend en (d + 2 * (f + 1) + 2) _ _ _ _ ?_, t2, t3⟩
      rw [if_pos (fun z => c (fl.mpr z))]
      exact t1
end EX
