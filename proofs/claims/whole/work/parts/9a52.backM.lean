/-! THE HISTORY, the model's side: the search that goes back. -/
abbrev frHl (s s' : qS) : Prop := (∀ a, a ≠ 207 → a ≠ 209 → s'.1 a = s.1 a) ∧ s'.2 = s.2
theorem frHl.rf {s : qS} : frHl s s := ⟨fun _ _ _ => rfl, rfl⟩
theorem frHl.tr {s t u : qS} (h : frHl s t) (g : frHl t u) : frHl s u := ⟨fun a h1 h2 => (g.1 a h1 h2).trans (h.1 a h1 h2), g.2.trans h.2⟩
abbrev chI (s : qS) (L : List Nat) : Prop := ∀ e, e < L.length → s.1 207 e = nI (L.reverse.getD e 0)
section LN
variable {en : pN} {d st n i k : Nat} {C : Nat → fI} {H0 : fI} {L RL : List Nat} {s0 s : qS} {f : Nat → fI} {x rp v5 : Int32} {Q : qR → Prop}
/-- what the search needs of the calls -/
abbrev lnI (st n : Nat) (C : Nat → fI) (f : Nat → fI) (s : qS) : Prop := s.1 151 87 = nI n ∧ (∀ c, c < n → cR (kiS st) C s c) ∧ (∀ c, c < n → (∃ b, b < 200 ∧ C 3 c = nI b ∧ f 3 b = 15) ∧ (C 4 c < 0 ∨ ∃ e, e < 200 ∧ C 4 c = nI e ∧ f 3 e = 16))
theorem lnI.fr (h : lnI st n C f s0) (g : frHl s0 s) : lnI st n C f s := ⟨by rw [g.1 151 (by decide) (by decide)]; exact h.1, fun c hc => by
  have := h.2.1 c hc
  unfold cR
  rw [g.1 201 (by decide) (by decide), g.1 202 (by decide) (by decide), g.1 203 (by decide) (by decide), g.1 204 (by decide) (by decide), g.1 205 (by decide) (by decide)]
  exact this, h.2.2⟩
theorem full_eq (hn : n ≤ 12) (hRL : ∀ k, k ∈ RL ↔ k < n ∧ ¬ C 4 k < 0) (hx : MK x L) (hrp : MK rp RL) : ((x &&& rp) = rp) ↔ fullB C n L = true := by
  rw [fullB_iff, MK_and hx hrp (fun k hk => by have := ((hRL k).mp hk).1; omega)]
  exact ⟨fun z j hj hb => z j ((hRL j).mpr ⟨hj, hb⟩), fun z k hk => z k ((hRL k).mp hk).1 ((hRL k).mp hk).2⟩
theorem m_tries (hst : st ≤ 3) (hn : n ≤ 12) (h0 : H0 0 = 0) (hRL : ∀ k, k ∈ RL ↔ k < n ∧ ¬ C 4 k < 0) (hrp : MK rp RL) (hI : lnI st n C f s0) {g : Nat} (hL : L.length + (g + 1) = 12) (hLn : ∀ i ∈ L, i < n) (hnd : L.Nodup) (hnf : fullB C n L = false)
    (ih : ∀ (i : Nat) (s : qS) (x : Int32), i < n → i ∉ L → frHl s0 s → chI s (i :: L) → MK x (i :: L) →
      (∀ M, srch st C H0 n g (i :: L) = some M → (∀ s', frHl s0 s' → chI s' M → exQ (L_X12_linear_255 en (d + 3) (nI M.length) s') Q) → exQ (L_X12_linear_89 en (d + 3) (nI st) rp (nI (i :: L).length) x 0 s) Q) ∧
      (srch st C H0 n g (i :: L) = none → (∀ s' x' v5 v6, frHl s0 s' → chI s' (i :: L) → MK x' (i :: L) → exQ (L_X12_linear_197 en (d + 3) (nI st) rp (nI (i :: L).length) x' v5 v6 0 s') Q) → exQ (L_X12_linear_89 en (d + 3) (nI st) rp (nI (i :: L).length) x 0 s) Q)) :
    ∀ (k i : Nat) (s : qS) (x v5 : Int32), i + k = n → frHl s0 s → chI s L → MK x L →
      (∀ M, srI st C H0 n (srch st C H0 n g) L k i = some M → (∀ s', frHl s0 s' → chI s' M → exQ (L_X12_linear_255 en (d + 3) (nI M.length) s') Q) → exQ (L_X12_linear_108 en (d + 3) (nI st) rp (nI L.length) x v5 (nI i) 0 s) Q) ∧
      (srI st C H0 n (srch st C H0 n g) L k i = none → (∀ s' x' v5 v6, frHl s0 s' → chI s' L → MK x' L → exQ (L_X12_linear_197 en (d + 3) (nI st) rp (nI L.length) x' v5 v6 0 s') Q) → exQ (L_X12_linear_108 en (d + 3) (nI st) rp (nI L.length) x v5 (nI i) 0 s) Q) := by
  intro k
  induction k with
  | zero =>
    intro i s x v5 hi F hc hx
    refine ⟨fun M hM => (by cases hM), fun _ hh => exQ.le (le_X12_linear_108 en _ _ _ _ _ _ _ _ _) ?_⟩
    rw [(hI.fr F).1, if_pos (by rw [n_LE (by omega) (by omega)]; omega)]
    exact hh s x v5 (nI i) F hc hx
  | succ k ihk =>
    intro i s x v5 hi F hc hx
    have HI := hI.fr F
    have can := m_can (en := en) (d := d + 2) (i := i) (L := L) hn (by omega) HI.1 (fun c hc => ⟨(HI.2.1 c hc).1, (HI.2.1 c hc).2.1⟩) HI.2.2 hx
    have start : exQ (bI (qev en (d + 3) 352 [.ref 151, .int (nI i), .int x] s) (fun w3 s4 => if w3 = (0 : Int32) then L_X12_linear_179 en (d + 3) (nI st) rp (nI L.length) x v5 (nI i) 0 s4 else gd (p_inB (nI L.length) 13 = true) (nm (uI s4 207 ((nI L.length).toNatClampNeg) (nI i)) (fun s8 => gd (p_inB (nI i) 200 = true) (if (s8.1 202 (nI i).toNatClampNeg) = (1000 : Int32) then L_X12_linear_179 en (d + 3) (nI st) rp (nI L.length) x v5 (nI i) (1 : Int32) s8 else bI (qev en (d + 3) 351 [.ref 151, .int (nI st), .int (nI L.length + (1 : Int32))] s8) (fun w11 s12 => if ¬ w11 = (s12.1 204 (nI i).toNatClampNeg) then L_X12_linear_179 en (d + 3) (nI st) rp (nI L.length) x v5 (nI i) (0 : Int32) s12 else L_X12_linear_179 en (d + 3) (nI st) rp (nI L.length) x v5 (nI i) (1 : Int32) s12)))))) Q → exQ (L_X12_linear_108 en (d + 3) (nI st) rp (nI L.length) x v5 (nI i) 0 s) Q := by
      intro hh
      refine exQ.le (le_X12_linear_108 en _ _ _ _ _ _ _ _ _) ?_
      rw [HI.1, if_neg (by rw [n_LE (by omega) (by omega)]; omega), if_neg (fun z => z rfl)]
      exact hh
    rw [can, bI_some] at start
    have no : ∀ s', exQ (L_X12_linear_108 en (d + 3) (nI st) rp (nI L.length) x v5 (nI (i + 1)) 0 s') Q → exQ (L_X12_linear_179 en (d + 3) (nI st) rp (nI L.length) x v5 (nI i) 0 s') Q := fun s' hh => exQ.le (le_X12_linear_179 en _ _ _ _ _ _ _ _ _) (by rw [if_pos rfl, n_ar]; exact hh)
    have yes : ∀ s', lnI st n C f s' → exQ (L_X12_linear_89 en (d + 3) (nI st) rp (nI (i :: L).length) (x ||| ((1 : Int32) <<< (nI i &&& 31))) 0 s') Q → exQ (L_X12_linear_179 en (d + 3) (nI st) rp (nI L.length) x v5 (nI i) 1 s') Q := by
      intro s' h' hh
      refine exQ.le (le_X12_linear_179 en _ _ _ _ _ _ _ _ _) ?_
      rw [if_neg (by decide), show nI i + (0 : Int32) = nI i from Int32.add_zero _]
      refine exQ.le (le_X12_linear_108 en _ _ _ _ _ _ _ _ _) ?_
      rw [h'.1, if_neg (by rw [n_LE (by omega) (by omega)]; omega), if_pos (by decide)]
      refine exQ.le (le_X12_linear_197 en _ _ _ _ _ _ _ _ _) ?_
      rw [if_neg (by decide), nm_eq, n_ar]
      exact hh
    have srE : srI st C H0 n (srch st C H0 n g) L (k + 1) i = if canB C n L i && fitB st C H0 L i then (match srch st C H0 n g (i :: L) with
      | some M => some M
      | none => srI st C H0 n (srch st C H0 n g) L k (i + 1)) else srI st C H0 n (srch st C H0 n g) L k (i + 1) := rfl
    by_cases c : canB C n L i = true
    · have hni : i ∉ L := (canB_iff.mp c).1
      rw [c, if_neg (by decide), gd_true (n_in (by omega) (by decide)), nm_eq, n_cl (show L.length < 2 ^ 31 by omega), gd_true (n_in (by omega) (by decide)), n_cl (show i < 2 ^ 31 by omega), n_ar] at start
      have F1 : frHl s0 (uI s 207 L.length (nI i)) := F.tr ⟨fun a h1 _ => uI_ne h1, rfl⟩
      have H1 := hI.fr F1
      have ch1 : chI (uI s 207 L.length (nI i)) (i :: L) := fun e he => by
        have he : e < L.length + 1 := he
        rw [rev_at, g_I]
        by_cases q : e < L.length
        · rw [if_neg (by omega), if_pos q]; exact hc e q
        · obtain rfl : e = L.length := by omega
          rw [if_pos ⟨rfl, rfl⟩, if_neg q, if_pos rfl]
      have mk1 := MK_cons hx (show i < 32 by omega)
      have in1 : ∀ j ∈ i :: L, j < n := fun j hj => (List.mem_cons.mp hj).elim (fun z => by omega) (hLn j)
      have nd1 : (i :: L).Nodup := List.nodup_cons.mpr ⟨hni, hnd⟩
      have len1 := nodup_len n (i :: L) nd1 in1
      -- does it fit
      refine (fun (key : ∃ s1, frHl s0 s1 ∧ chI s1 (i :: L) ∧ (exQ (if fitB st C H0 L i = true then L_X12_linear_179 en (d + 3) (nI st) rp (nI L.length) x v5 (nI i) 1 s1 else L_X12_linear_179 en (d + 3) (nI st) rp (nI L.length) x v5 (nI i) 0 s1) Q → exQ (L_X12_linear_108 en (d + 3) (nI st) rp (nI L.length) x v5 (nI i) 0 s) Q)) => ?_) ?_
      · obtain ⟨s1, F2, ch2, key⟩ := key
        have ch2' : chI s1 L := fun e he => by
          have := ch2 e (Nat.lt_succ_of_lt he)
          rw [rev_at, if_pos he] at this
          exact this
        by_cases ft : fitB st C H0 L i = true
        · rw [if_pos ft] at key
          obtain ⟨i1, i2⟩ := ih i s1 _ (by omega) hni F2 ch2 mk1
          cases hS : srch st C H0 n g (i :: L) with
          | some M =>
            have e : srI st C H0 n (srch st C H0 n g) L (k + 1) i = some M := by rw [srE, c, ft, hS]; rfl
            rw [e]
            refine ⟨fun M' hM' hh => ?_, fun z => by cases z⟩
            cases hM'
            exact key (yes s1 (hI.fr F2) (i1 M hS hh))
          | none =>
            have e : srI st C H0 n (srch st C H0 n g) L (k + 1) i = srI st C H0 n (srch st C H0 n g) L k (i + 1) := by rw [srE, c, ft, hS]; rfl
            rw [e]
            have back : (∀ s' x', frHl s0 s' → chI s' L → MK x' L → exQ (L_X12_linear_108 en (d + 3) (nI st) rp (nI L.length) x' (nI (i + 1)) (nI (i + 1)) 0 s') Q) → exQ (L_X12_linear_108 en (d + 3) (nI st) rp (nI L.length) x v5 (nI i) 0 s) Q := by
              intro hh
              refine key (yes s1 (hI.fr F2) (i2 hS fun s' x' v5 v6 F' c' hx' => ?_))
              refine exQ.le (le_X12_linear_197 en _ _ _ _ _ _ _ _ _) ?_
              have c0 : s'.1 207 L.length = nI i := by
                have := c' L.length (Nat.lt_succ_self _)
                rwa [rev_at, if_neg (Nat.lt_irrefl _), if_pos rfl] at this
              have mk2 := MK_tail hx' (show i < 32 by omega) hni
              rw [if_pos rfl, show nI (i :: L).length = nI (L.length + 1) from rfl, n_cm1, if_neg (nI_pos (by omega)), gd_true (n_in (by omega) (by decide)), nm_eq, nm_eq, n_cl (by omega), c0, n_ar]
              refine exQ.le (le_X12_linear_89 en _ _ _ _ _ _ _) ?_
              rw [if_neg (nI_pos (by omega)), if_neg (fun z => by rw [(full_eq hn hRL mk2 hrp).mp z] at hnf; cases hnf)]
              exact hh s' _ F' (fun e he => by
                have := c' e (Nat.lt_succ_of_lt he)
                rw [rev_at, if_pos he] at this
                exact this) mk2
            exact ⟨fun M hM hh => back fun s' x' F' c' hx' => ((ihk (i + 1) s' x' (nI (i + 1)) (by omega) F' c' hx').1 M hM hh), fun hN hh => back fun s' x' F' c' hx' => ((ihk (i + 1) s' x' (nI (i + 1)) (by omega) F' c' hx').2 hN hh)⟩
        · rw [if_neg ft] at key
          have e : srI st C H0 n (srch st C H0 n g) L (k + 1) i = srI st C H0 n (srch st C H0 n g) L k (i + 1) := by
            rw [srE, if_neg (by rw [Bool.and_eq_true]; exact fun z => ft z.2)]
          rw [e]
          obtain ⟨j1, j2⟩ := ihk (i + 1) s1 x v5 (by omega) F2 ch2' hx
          exact ⟨fun M hM hh => key (no s1 (j1 M hM hh)), fun hN hh => key (no s1 (j2 hN hh))⟩
      · obtain ⟨-, r2, -, r4, -⟩ := H1.2.1 i (by omega)
        by_cases a : C 4 i < 0
        · refine ⟨_, F1, ch1, fun hh => start ?_⟩
          rw [if_pos (show fitB st C H0 L i = true by unfold fitB; rw [decide_eq_true a]; rfl)] at hh
          rw [r2, if_pos a, if_pos rfl]
          exact hh
        · obtain ⟨-, z⟩ := H1.2.2 i (by omega)
          obtain ⟨e', he, ee, -⟩ := z.resolve_left a
          obtain ⟨s2, g1, g2⟩ := m_given (en := en) (d := d + 2) (st := st) (n := n) (C := C) (H0 := H0) (L := i :: L) (s := uI s 207 L.length (nI i)) hst hn (by show L.length + 1 ≤ 12; omega) len1 in1 ch1 (fun c hc => ⟨(H1.2.1 c hc).2.2.2.2, (H1.2.1 c hc).2.2.1⟩) h0
          have F2 : frHl s0 s2 := F1.tr ⟨fun a _ h2 => g2.1 a h2, g2.2⟩
          refine ⟨s2, F2, fun e he => by rw [g2.1 207 (by decide)]; exact ch1 e he, fun hh => start ?_⟩
          have g1' : qev en (d + 3) 351 [.ref 151, .int (nI st), .int (nI (L.length + 1))] (uI s 207 L.length (nI i)) = some (some (.int (cnt st C H0 (i :: L)).2.2), s2) := g1
          rw [r2, if_neg a, ee, if_neg (by rw [n_eq (by decide) (by omega)]; omega), g1', bI_some, g2.1 204 (by decide), r4 a]
          unfold fitB at hh
          rw [decide_eq_false a, Bool.false_or] at hh
          by_cases w : C 5 i = (cnt st C H0 (i :: L)).2.2
          · rw [if_pos (decide_eq_true w)] at hh
            rw [if_neg (fun y => y w.symm)]
            exact hh
          · rw [if_neg (by rw [decide_eq_false w]; decide)] at hh
            rw [if_pos (fun y => w y.symm)]
            exact hh
    · have c' : canB C n L i = false := by simpa using c
      rw [c', if_pos (by decide)] at start
      have e : srI st C H0 n (srch st C H0 n g) L (k + 1) i = srI st C H0 n (srch st C H0 n g) L k (i + 1) := by
        rw [srE, c']; rfl
      rw [e]
      obtain ⟨j1, j2⟩ := ihk (i + 1) s x v5 (by omega) F hc hx
      exact ⟨fun M hM hh => start (no s (j1 M hM hh)), fun hN hh => start (no s (j2 hN hh))⟩
/-- the search as a whole -/
theorem m_srch (hst : st ≤ 3) (hn : n ≤ 12) (h0 : H0 0 = 0) (hRL : ∀ k, k ∈ RL ↔ k < n ∧ ¬ C 4 k < 0) (hrp : MK rp RL) (hI : lnI st n C f s0) : ∀ (g : Nat) (L : List Nat) (s : qS) (x : Int32), L.length + g = 12 → (∀ i ∈ L, i < n) → L.Nodup → frHl s0 s → chI s L → MK x L →
      (∀ M, srch st C H0 n g L = some M → (∀ s', frHl s0 s' → chI s' M → exQ (L_X12_linear_255 en (d + 3) (nI M.length) s') Q) → exQ (L_X12_linear_89 en (d + 3) (nI st) rp (nI L.length) x 0 s) Q) ∧
      (srch st C H0 n g L = none → (∀ s' x' v5 v6, frHl s0 s' → chI s' L → MK x' L → exQ (L_X12_linear_197 en (d + 3) (nI st) rp (nI L.length) x' v5 v6 0 s') Q) → exQ (L_X12_linear_89 en (d + 3) (nI st) rp (nI L.length) x 0 s) Q) := by
  intro g
  induction g with
  | zero =>
    intro L s x hL hLn hnd F hc hx
    have fl : fullB C n L = true := by
      rw [fullB_iff]
      intro j hj _
      refine Classical.byContradiction fun w => ?_
      have := nodup_len n (j :: L) (List.nodup_cons.mpr ⟨w, hnd⟩) (fun i hi => (List.mem_cons.mp hi).elim (fun z => by omega) (hLn i))
      have : L.length + 1 ≤ n := this
      omega
    have e : srch st C H0 n 0 L = some L := by
      show (if fullB C n L then some L else none) = _
      rw [if_pos fl]
    rw [e]
    refine ⟨fun M hM hh => ?_, fun z => by cases z⟩
    cases hM
    refine exQ.le (le_X12_linear_89 en _ _ _ _ _ _ _) ?_
    rw [if_neg (nI_pos (by omega)), if_pos ((full_eq hn hRL hx hrp).mpr fl)]
    exact hh s F hc
  | succ g ih =>
    intro L s x hL hLn hnd F hc hx
    by_cases fl : fullB C n L = true
    · have e : srch st C H0 n (g + 1) L = some L := by
        show (if fullB C n L then some L else _) = _
        rw [if_pos fl]
      rw [e]
      refine ⟨fun M hM hh => ?_, fun z => by cases z⟩
      cases hM
      refine exQ.le (le_X12_linear_89 en _ _ _ _ _ _ _) ?_
      rw [if_neg (nI_pos (by omega)), if_pos ((full_eq hn hRL hx hrp).mpr fl)]
      exact hh s F hc
    · have e : srch st C H0 n (g + 1) L = srI st C H0 n (srch st C H0 n g) L n 0 := by
        show (if fullB C n L then some L else _) = _
        rw [if_neg fl]
      rw [e]
      have t := m_tries (en := en) (d := d) (Q := Q) (L := L) hst hn h0 hRL hrp hI hL hLn hnd (by simpa using fl) (fun i s x hi hni F hc hx => ih (i :: L) s x (by show L.length + 1 + g = 12; omega) (fun j hj => (List.mem_cons.mp hj).elim (fun z => by omega) (hLn j)) (List.nodup_cons.mpr ⟨hni, hnd⟩) F hc hx) n 0 s x 0 (by omega) F hc hx
      have start : exQ (L_X12_linear_108 en (d + 3) (nI st) rp (nI L.length) x 0 (nI 0) 0 s) Q → exQ (L_X12_linear_89 en (d + 3) (nI st) rp (nI L.length) x 0 s) Q := by
        intro hh
        refine exQ.le (le_X12_linear_89 en _ _ _ _ _ _ _) ?_
        rw [if_neg (nI_pos (by omega)), if_neg (fun z => fl ((full_eq hn hRL hx hrp).mp z))]
        exact hh
      exact ⟨fun M hM hh => start (t.1 M hM hh), fun hN hh => start (t.2 hN hh)⟩
end LN
