/-! JUDGING, the class's side: a state gets its number, a step is followed. -/
theorem rdU {σ : qS} {a k b j : Nat} {v : Int32} : (uI σ a k v).1 b j = if b = a ∧ j = k then v else σ.1 b j := rfl
theorem rdU2 {σ : qS} {a k : Nat} {v : Int32} : (uI σ a k v).2 = σ.2 := rfl
theorem gd_in {a N : Nat} {x : Option qR} (h : a < N) (hN : N < 2 ^ 31) : gd (p_inB (nI a) N = true) x = x := gd_true (n_in h hN)
/-- the flags of a state -/
def fgV (a b c e : Bool) : Int32 := nI ((if a then 1 else 0) + (if b then 2 else 0) + (if c then 4 else 0) + (if e then 8 else 0))
theorem fg_1 {a b c e : Bool} : fgV a b c e &&& (1 : Int32) = bt a := by cases a <;> cases b <;> cases c <;> cases e <;> decide
theorem fg_2 {a b c e : Bool} : (fgV a b c e &&& (2 : Int32) = 0) = (b = false) := by cases a <;> cases b <;> cases c <;> cases e <;> decide
theorem fg_5 {a b c e : Bool} : (fgV a b c e &&& (5 : Int32) = 0) = (a = false ∧ c = false) := by cases a <;> cases b <;> cases c <;> cases e <;> decide
theorem fg_8 {a b c e : Bool} : (fgV a b c e &&& (8 : Int32) = 0) = (e = false) := by cases a <;> cases b <;> cases c <;> cases e <;> decide
theorem fg_12 {a b c e : Bool} : fgV a b c e &&& (12 : Int32) = (if c then 4 else 0) + (if e then 8 else 0) := by cases a <;> cases b <;> cases c <;> cases e <;> decide
theorem fg_o4 {a b c e : Bool} : fgV a b c e ||| (4 : Int32) = fgV a b true e := by cases a <;> cases b <;> cases c <;> cases e <;> decide
theorem fg_o8 {a b c e : Bool} : fgV a b c e ||| (8 : Int32) = fgV a b c true := by cases a <;> cases b <;> cases c <;> cases e <;> decide
/-- what the class tells of the groups it looks for -/
abbrev cjP (s : qS) (N C : Nat) (I L G X : Nat → Nat) (no : Nat) (op : Nat → Nat) (nn : Nat) (tr : Nat → Nat) (Q : Nat) : Prop := (s.1 103 9 = nI C ∧ s.1 103 10 = nI no ∧ s.1 103 11 = nI nn ∧ s.1 103 12 = nI Q) ∧ (∀ v, v < 20000 → s.1 105 v = nI (I v)) ∧ (∀ v, v < N → I v ≠ 0 → s.1 106 v = nI (L v) ∧ s.1 110 v = nI (X v)) ∧ (∀ v, v < 20000 → s.1 107 v = nI (G v)) ∧ (∀ i, i < no → s.1 108 i = nI (op i)) ∧ ∀ i, i < nn → s.1 109 i = nI (tr i)
/-- what stays -/
abbrev cjF (τ s : qS) : Prop := (∀ c, c < 103 ∨ 110 < c → s.1 c = τ.1 c) ∧ s.2 = τ.2
/-- the graph, as the class tells it -/
abbrev cjG (A E T : Nat → Nat) (N : Nat) (s : qS) : Prop := (∀ i, i < N + 1 → s.1 92 i = nI (A i)) ∧ (∀ e, e < A N → s.1 90 e = nI (E e * 64 + stN (T e)) ∧ E e < N ∧ T e < 40) ∧ s.1 83 3 = nI N
section ENJ
variable {en : pN} {d N C no nn Q v u i0 : Nat} {I L G X op tr A E T : Nat → Nat} {s s' s'' τ : qS} {W B R K : Nat → Bool}
theorem cjF.rf : cjF τ τ := ⟨fun _ _ => rfl, rfl⟩
theorem cjF.tr' (h : cjF s s') (g : cjF s' s'') : cjF s s'' := ⟨fun c z => (g.1 c z).trans (h.1 c z), g.2.trans h.2⟩
theorem cjG.fr (h : cjG A E T N s) (g : cjF s s') : cjG A E T N s' := by
  obtain ⟨h1, h2, h3⟩ := h
  refine ⟨fun i hi => ?_, fun e he => ?_, ?_⟩
  · rw [g.1 92 (by omega)]; exact h1 i hi
  · rw [g.1 90 (by omega)]; exact h2 e he
  · rw [g.1 83 (by omega)]; exact h3
theorem x_isWantedJ (hf : ∀ v, v < N → s.1 104 v = fgV (W v) (B v) (R v) (K v)) (hv : v < N) (hN : N ≤ 20000) : qev en (d + 1) 23 [.ref 103, .int (nI v)] s = some (some (.int (bt (W v))), s) := by
  refine le_X2_isWanted en _ _ _ _ ?_
  rw [gd_in (by omega) (by decide), n_cl (by omega), hf v hv, fg_1]
  cases W v <;> rfl
theorem x_enterJ (h : cjP s N C I L G X no op nn tr Q) (hN : N ≤ 20000) (hv : v < N) (hG : cjG A E T N s) (hno : no < N) (hnn : nn < N) (hC : C < N) :
    ∃ s', qev en (d + 1) 27 [.ref 103, .int (nI v)] s = some (none, s') ∧ cjF s s' ∧ s'.1 104 = s.1 104 ∧ cjP s' N (C + 1) (at1 I v (C + 1)) (at1 L v (C + 1)) G (at1 X v (A v)) (no + 1) (at1 op no v) (nn + 1) (at1 tr nn v) Q := by
  obtain ⟨⟨h9, h10, h11, h12⟩, hI, hL, hg, ho, ht⟩ := h
  have hA := hG.1 v (by omega)
  refine ⟨uI (uI (uI (uI (uI (uI (uI (uI s 103 9 (nI (C + 1))) 105 v (nI (C + 1))) 106 v (nI (C + 1))) 110 v (nI (A v))) 108 no (nI v)) 103 10 (nI (no + 1))) 109 nn (nI v)) 103 11 (nI (nn + 1)), le_X2_enter en _ _ _ _ ?_, ⟨fun c hc => ?_, rfl⟩, ?_, ⟨⟨?_, ?_, ?_, ?_⟩, fun u hu => ?_, fun u hu hn => ?_, fun u hu => ?_, fun i hi => ?_, fun i hi => ?_⟩⟩
  · rw [nm_eq, gd_in (by omega) (by decide), n_cl (by omega), nm_eq, nm_eq, gd_in (by omega) (by decide), nm_eq]
    have q1 : s.1 103 9 + (1 : Int32) = nI (C + 1) := by rw [h9]; exact n_ar
    rw [q1]
    simp only [rdU, Nat.reduceEqDiff, false_and, and_false, and_self, if_false, if_true, reduceIte, hA, h10, h11]
    rw [gd_in (by omega) (by decide), nm_eq, nm_eq]
    simp only [rdU, Nat.reduceEqDiff, false_and, and_false, and_self, if_false, if_true, reduceIte, hA, h10, h11]
    rw [gd_in (by omega) (by decide), nm_eq, nm_eq, n_cl (by omega), n_cl (by omega)]
    simp only [rdU, Nat.reduceEqDiff, false_and, and_false, and_self, if_false, if_true, reduceIte, hA, h10, h11]
    rw [show nI no + (1 : Int32) = nI (no + 1) from n_ar, show nI nn + (1 : Int32) = nI (nn + 1) from n_ar]
  · rw [uI_ne (by omega), uI_ne (by omega), uI_ne (by omega), uI_ne (by omega), uI_ne (by omega), uI_ne (by omega), uI_ne (by omega), uI_ne (by omega)]
  · rw [uI_ne (by omega), uI_ne (by omega), uI_ne (by omega), uI_ne (by omega), uI_ne (by omega), uI_ne (by omega), uI_ne (by omega), uI_ne (by omega)]
  · simp only [rdU, Nat.reduceEqDiff, false_and, and_false, and_self, if_false, if_true, reduceIte]
  · simp only [rdU, Nat.reduceEqDiff, false_and, and_false, and_self, if_false, if_true, reduceIte]
  · simp only [rdU, Nat.reduceEqDiff, false_and, and_false, and_self, if_false, if_true, reduceIte]
  · simp only [rdU, Nat.reduceEqDiff, false_and, and_false, and_self, if_false, if_true, reduceIte, h12]
  · simp only [rdU, Nat.reduceEqDiff, false_and, and_false, true_and, if_false, reduceIte, hI u hu, at1]
    split <;> rfl
  · simp only [rdU, Nat.reduceEqDiff, false_and, and_false, true_and, if_false, reduceIte, at1]
    by_cases q : u = v
    · simp only [if_pos q]; exact ⟨trivial, trivial⟩
    · simp only [if_neg q]
      rw [at1_n q] at hn
      exact hL u hu hn
  · simp only [rdU, Nat.reduceEqDiff, false_and, and_false, true_and, if_false, reduceIte, hg u hu]
  · simp only [rdU, Nat.reduceEqDiff, false_and, and_false, true_and, if_false, reduceIte, at1]
    by_cases q : i = no
    · simp only [if_pos q]
    · simp only [if_neg q]; exact ho i (by omega)
  · simp only [rdU, Nat.reduceEqDiff, false_and, and_false, true_and, if_false, reduceIte, at1]
    by_cases q : i = nn
    · simp only [if_pos q]
    · simp only [if_neg q]; exact ht i (by omega)
end ENJ
