/-! THE RUN, the class's side: what its steps say of each other. s: any state; f: the rows of its steps. -/
/-- what holds of a state in which the run's machine has program p and the steps' rows are f -/
abbrev RV (s : qS) (p : Nat) (P f : Nat → fI) : Prop := (∀ k, k < 6 → s.1 (118 + k) = f k) ∧ s.2.2 112 7 = p + 1 ∧ lc p = 5 ∧ s.1 p 7 = P 0 7
abbrev volI (P : Nat → fI) (x : Int32) : Bool := decide (¬ ((P 0 7 >>> (x &&& 31)) &&& (1 : Int32)) = 0)
abbrev tlS (P f : Nat → fI) (i : Nat) : Prop := f 3 i = 3 ∨ f 3 i = 4 ∨ (f 3 i = 2 ∧ volI P (f 4 i) = true)
abbrev hrS (P f : Nat → fI) (i : Nat) : Prop := f 3 i = 3 ∨ f 3 i = 4 ∨ (f 3 i = 1 ∧ volI P (f 4 i) = true)
abbrev ldS (P f : Nat → fI) (i j : Nat) : Prop := (f 3 i ≠ 20 ∧ f 3 j ≠ 20) ∧ (f 0 i = f 0 j ∨ (f 3 i = 10 ∧ f 4 i = f 0 j) ∨ (f 3 j = 11 ∧ f 4 j = f 0 i) ∨ (f 3 i = 12 ∧ f 3 j = 12) ∨ (f 4 i = f 4 j ∧ (((f 3 i = 6 ∨ f 3 i = 7) ∧ (f 3 j = 5 ∨ f 3 j = 19)) ∨ (tlS P f i ∧ hrS P f j))))
section RN
variable {en : pN} {d : Nat} {s : qS} {p i j : Nat} {P f : Nat → fI}
theorem rv_0 (h : RV s p P f) : s.1 118 = f 0 := h.1 0 (by decide)
theorem rv_1 (h : RV s p P f) : s.1 119 = f 1 := h.1 1 (by decide)
theorem rv_2 (h : RV s p P f) : s.1 120 = f 2 := h.1 2 (by decide)
theorem rv_3 (h : RV s p P f) : s.1 121 = f 3 := h.1 3 (by decide)
theorem rv_4 (h : RV s p P f) : s.1 122 = f 4 := h.1 4 (by decide)
theorem rv_5 (h : RV s p P f) : s.1 123 = f 5 := h.1 5 (by decide)
theorem x_volI {x : Int32} (hp : lc p = 5) (hP : s.1 p 7 = P 0 7) : qev en (d + 1) 94 [.ref p, .int x] s = some (some (.int (bt (volI P x))), s) := by
  refine le_X5_isVolatile en d p _ s _ ?_
  rw [gd_true hp, hP]
  by_cases h : ((P 0 7 >>> (x &&& 31)) &&& (1 : Int32)) = 0
  · rw [if_pos h, show volI P x = false from decide_eq_false (fun q => q h)]; rfl
  · rw [if_neg h, show volI P x = true from decide_eq_true h]; rfl
theorem bt_dec {X : Prop} [Decidable X] {r : Int32} (h1 : X → r = 1) (h2 : ¬ X → r = 0) : r = bt (decide X) := by
  by_cases h : X
  · rw [h1 h, decide_eq_true h]; rfl
  · rw [h2 h, decide_eq_false h]; rfl
theorem ibd {α : Type} {X : Prop} [Decidable X] {x y : α} : (if bt (decide X) = 0 then x else y) = (if X then y else x) := by
  by_cases h : X
  · rw [if_pos h, if_neg (by rw [decide_eq_true h]; decide)]
  · rw [if_neg h, if_pos (by rw [decide_eq_false h]; decide)]
theorem ibn {α : Type} {X : Prop} [Decidable X] {x y : α} : (if ¬ bt (decide X) = 0 then x else y) = (if X then x else y) := by
  by_cases h : X
  · rw [if_pos h, if_pos (by rw [decide_eq_true h]; decide)]
  · rw [if_neg h, if_neg (by rw [decide_eq_false h]; decide)]
theorem x_tells (h : RV s p P f) (hi : i < 200) : qev en (d + 2) 159 [.ref 111, .int (nI i)] s = some (some (.int (bt (decide (tlS P f i)))), s) := by
  refine le_X8_tells en (d + 1) _ _ _ ?_
  rw [gd_true (n_in hi (by decide)), rv_3 h, n_cl (by omega)]
  show (if f 3 i = 3 then _ else _) = _
  by_cases h3 : f 3 i = 3
  · rw [if_pos h3, decide_eq_true (Or.inl h3)]; rfl
  rw [if_neg h3]
  by_cases h4 : f 3 i = 4
  · rw [if_pos h4, decide_eq_true (Or.inr (Or.inl h4))]; rfl
  rw [if_neg h4]
  by_cases h2 : f 3 i = 2
  · rw [if_neg (fun z => z h2), h.2.1, gd_true ⟨by omega, h.2.2.1⟩]
    show bI (qev en (d + 1) 94 [.ref p, .int (s.1 122 i)] s) _ = _
    rw [rv_4 h, x_volI h.2.2.1 h.2.2.2]
    show (if bt (decide (¬ ((P 0 7 >>> (f 4 i &&& 31)) &&& (1 : Int32)) = 0)) = 0 then _ else _) = _
    rw [ibd]
    by_cases q : ¬ ((P 0 7 >>> (f 4 i &&& 31)) &&& (1 : Int32)) = 0
    · rw [if_pos q, decide_eq_true (Or.inr (Or.inr ⟨h2, decide_eq_true q⟩))]; rfl
    · replace q : ¬ volI P (f 4 i) = true := fun z => q (of_decide_eq_true z)
      rw [if_neg (fun z => q (decide_eq_true z)), decide_eq_false (by rintro (z | z | z); exact h3 z; exact h4 z; exact q z.2)]; rfl
  · rw [if_pos h2, decide_eq_false (by rintro (z | z | z); exact h3 z; exact h4 z; exact h2 z.1)]; rfl
theorem x_hears (h : RV s p P f) (hi : i < 200) : qev en (d + 2) 160 [.ref 111, .int (nI i)] s = some (some (.int (bt (decide (hrS P f i)))), s) := by
  refine le_X8_hears en (d + 1) _ _ _ ?_
  rw [gd_true (n_in hi (by decide)), rv_3 h, n_cl (by omega)]
  show (if f 3 i = 3 then _ else _) = _
  by_cases h3 : f 3 i = 3
  · rw [if_pos h3, decide_eq_true (Or.inl h3)]; rfl
  rw [if_neg h3]
  by_cases h4 : f 3 i = 4
  · rw [if_pos h4, decide_eq_true (Or.inr (Or.inl h4))]; rfl
  rw [if_neg h4]
  by_cases h2 : f 3 i = 1
  · rw [if_neg (fun z => z h2), h.2.1, gd_true ⟨by omega, h.2.2.1⟩]
    show bI (qev en (d + 1) 94 [.ref p, .int (s.1 122 i)] s) _ = _
    rw [rv_4 h, x_volI h.2.2.1 h.2.2.2]
    show (if bt (decide (¬ ((P 0 7 >>> (f 4 i &&& 31)) &&& (1 : Int32)) = 0)) = 0 then _ else _) = _
    rw [ibd]
    by_cases q : ¬ ((P 0 7 >>> (f 4 i &&& 31)) &&& (1 : Int32)) = 0
    · rw [if_pos q, decide_eq_true (Or.inr (Or.inr ⟨h2, decide_eq_true q⟩))]; rfl
    · replace q : ¬ volI P (f 4 i) = true := fun z => q (of_decide_eq_true z)
      rw [if_neg (fun z => q (decide_eq_true z)), decide_eq_false (by rintro (z | z | z); exact h3 z; exact h4 z; exact q z.2)]; rfl
  · rw [if_pos h2, decide_eq_false (by rintro (z | z | z); exact h3 z; exact h4 z; exact h2 z.1)]; rfl
theorem l_187 (h : RV s p P f) (hi : i < 200) (hj : j < 200) : L_X8_leadsTo_187 en (d + 2) (nI i) (nI j) s = some (some (.int (bt (decide (tlS P f i ∧ hrS P f j)))), s) := by
  refine le_X8_leadsTo_187 en (d + 2) _ _ _ _ ?_
  rw [x_tells h hi]
  show (if bt (decide (tlS P f i)) = 0 then _ else bI (qev en (d + 2) 160 [.ref 111, .int (nI j)] s) _) = _
  rw [ibd]
  by_cases q : tlS P f i
  · rw [if_pos q, x_hears h hj]
    show (if bt (decide (hrS P f j)) = 0 then _ else _) = _
    rw [ibd]
    by_cases q' : hrS P f j
    · rw [if_pos q', decide_eq_true ⟨q, q'⟩]; rfl
    · rw [if_neg q', decide_eq_false (fun z => q' z.2)]; rfl
  · rw [if_neg q, decide_eq_false (fun z => q z.1)]; rfl
theorem l_156 {x y : Int32} (h : RV s p P f) (hi : i < 200) (hj : j < 200) : L_X8_leadsTo_156 en (d + 2) (nI i) (nI j) x y s = some (some (.int (bt (decide (f 4 i = f 4 j ∧ ((y ≠ 0 ∧ x ≠ 0) ∨ (tlS P f i ∧ hrS P f j)))))), s) := by
  refine le_X8_leadsTo_156 en (d + 2) _ _ _ _ _ _ ?_
  rw [gd_true (n_in hi (by decide)), gd_true (n_in hj (by decide)), rv_4 h, n_cl (by omega), n_cl (by omega), l_187 h hi hj]
  by_cases q : f 4 i = f 4 j
  · rw [if_neg (fun z => z q)]
    by_cases hx : x = 0
    · rw [if_pos hx]
      congr 5
      simp only [decide_eq_decide]
      exact ⟨fun z => ⟨q, Or.inr z⟩, fun z => z.2.resolve_left (fun w => w.2 hx)⟩
    · rw [if_neg hx]
      by_cases hy : y = 0
      · rw [if_neg (fun z => z hy)]
        congr 5
        simp only [decide_eq_decide]
        exact ⟨fun z => ⟨q, Or.inr z⟩, fun z => z.2.resolve_left (fun w => w.1 hy)⟩
      · rw [if_pos hy, decide_eq_true ⟨q, Or.inl ⟨hy, hx⟩⟩]; rfl
  · rw [if_pos q, decide_eq_false (fun z => q z.1)]; rfl
theorem l_136 {x y : Int32} (h : RV s p P f) (hi : i < 200) (hj : j < 200) : L_X8_leadsTo_136 en (d + 2) (nI i) (nI j) y x s = some (some (.int (bt (decide (f 4 i = f 4 j ∧ (((y = 5 ∨ y = 19) ∧ x ≠ 0) ∨ (tlS P f i ∧ hrS P f j)))))), s) := by
  refine le_X8_leadsTo_136 en (d + 2) _ _ _ _ _ _ ?_
  rw [l_156 h hi hj, l_156 h hi hj]
  by_cases q : y = 5
  · rw [if_pos q]
    congr 5
    simp only [decide_eq_decide]
    exact ⟨fun z => ⟨z.1, z.2.imp (fun w => ⟨Or.inl q, w.2⟩) id⟩, fun z => ⟨z.1, z.2.imp (fun w => ⟨by decide, w.2⟩) id⟩⟩
  rw [if_neg q]
  by_cases q2 : y = 19
  · rw [if_neg (fun z => z q2)]
    congr 5
    simp only [decide_eq_decide]
    exact ⟨fun z => ⟨z.1, z.2.imp (fun w => ⟨Or.inr q2, w.2⟩) id⟩, fun z => ⟨z.1, z.2.imp (fun w => ⟨by decide, w.2⟩) id⟩⟩
  · rw [if_pos q2]
    congr 5
    simp only [decide_eq_decide]
    exact ⟨fun z => ⟨z.1, z.2.imp (fun w => absurd rfl w.1) id⟩, fun z => ⟨z.1, z.2.imp (fun w => (w.1.elim (fun v => absurd v q) (fun v => absurd v q2))) id⟩⟩
theorem l_119 (h : RV s p P f) (hi : i < 200) (hj : j < 200) : L_X8_leadsTo_119 en (d + 2) (nI i) (nI j) (f 3 i) (f 3 j) s = some (some (.int (bt (decide (f 4 i = f 4 j ∧ (((f 3 i = 6 ∨ f 3 i = 7) ∧ (f 3 j = 5 ∨ f 3 j = 19)) ∨ (tlS P f i ∧ hrS P f j)))))), s) := by
  refine le_X8_leadsTo_119 en (d + 2) _ _ _ _ _ _ ?_
  rw [l_136 h hi hj, l_136 h hi hj]
  by_cases q : f 3 i = 6
  · rw [if_pos q]
    congr 5
    simp only [decide_eq_decide]
    exact ⟨fun z => ⟨z.1, z.2.imp (fun w => ⟨Or.inl q, w.1⟩) id⟩, fun z => ⟨z.1, z.2.imp (fun w => ⟨w.2, by decide⟩) id⟩⟩
  rw [if_neg q]
  by_cases q2 : f 3 i = 7
  · rw [if_neg (fun z => z q2)]
    congr 5
    simp only [decide_eq_decide]
    exact ⟨fun z => ⟨z.1, z.2.imp (fun w => ⟨Or.inr q2, w.1⟩) id⟩, fun z => ⟨z.1, z.2.imp (fun w => ⟨w.2, by decide⟩) id⟩⟩
  · rw [if_pos q2]
    congr 5
    simp only [decide_eq_decide]
    exact ⟨fun z => ⟨z.1, z.2.imp (fun w => absurd rfl w.2) id⟩, fun z => ⟨z.1, z.2.imp (fun w => (w.1.elim (fun v => absurd v q) (fun v => absurd v q2))) id⟩⟩
theorem l_104 (h : RV s p P f) (hi : i < 200) (hj : j < 200) : L_X8_leadsTo_104 en (d + 2) (nI i) (nI j) (f 3 i) (f 3 j) s = some (some (.int (bt (decide ((f 3 i = 12 ∧ f 3 j = 12) ∨ (f 4 i = f 4 j ∧ (((f 3 i = 6 ∨ f 3 i = 7) ∧ (f 3 j = 5 ∨ f 3 j = 19)) ∨ (tlS P f i ∧ hrS P f j))))))), s) := by
  refine le_X8_leadsTo_104 en (d + 2) _ _ _ _ _ _ ?_
  rw [l_119 h hi hj]
  by_cases q : f 3 i = 12
  · rw [if_neg (fun z => z q)]
    by_cases q2 : f 3 j = 12
    · rw [if_neg (fun z => z q2), decide_eq_true (Or.inl ⟨q, q2⟩)]; rfl
    · rw [if_pos q2]
      congr 5
      simp only [decide_eq_decide]
      exact ⟨fun z => Or.inr z, fun z => z.resolve_left (fun w => q2 w.2)⟩
  · rw [if_pos q]
    congr 5
    simp only [decide_eq_decide]
    exact ⟨fun z => Or.inr z, fun z => z.resolve_left (fun w => q w.1)⟩
theorem l_78 (h : RV s p P f) (hi : i < 200) (hj : j < 200) : L_X8_leadsTo_78 en (d + 2) (nI i) (nI j) (f 3 i) (f 3 j) s = some (some (.int (bt (decide ((f 3 j = 11 ∧ f 4 j = f 0 i) ∨ (f 3 i = 12 ∧ f 3 j = 12) ∨ (f 4 i = f 4 j ∧ (((f 3 i = 6 ∨ f 3 i = 7) ∧ (f 3 j = 5 ∨ f 3 j = 19)) ∨ (tlS P f i ∧ hrS P f j))))))), s) := by
  refine le_X8_leadsTo_78 en (d + 2) _ _ _ _ _ _ ?_
  rw [l_104 h hi hj, gd_true (n_in hi (by decide)), gd_true (n_in hj (by decide)), rv_4 h, rv_0 h, n_cl (by omega), n_cl (by omega)]
  by_cases q : f 3 j = 11
  · rw [if_neg (fun z => z q)]
    by_cases q2 : f 4 j = f 0 i
    · rw [if_pos q2, decide_eq_true (Or.inl ⟨q, q2⟩)]; rfl
    · rw [if_neg q2]
      congr 5
      simp only [decide_eq_decide]
      exact ⟨fun z => Or.inr z, fun z => z.resolve_left (fun w => q2 w.2)⟩
  · rw [if_pos q]
    congr 5
    simp only [decide_eq_decide]
    exact ⟨fun z => Or.inr z, fun z => z.resolve_left (fun w => q w.1)⟩
theorem x_leads (h : RV s p P f) (hi : i < 200) (hj : j < 200) : qev en (d + 3) 158 [.ref 111, .int (nI i), .int (nI j)] s = some (some (.int (bt (decide (ldS P f i j)))), s) := by
  refine le_X8_leadsTo en (d + 2) _ _ _ _ ?_
  rw [gd_true (n_in hi (by decide))]
  show gd (p_inB (nI j) 200 = true) _ = _
  rw [gd_true (n_in hj (by decide)), rv_3 h, rv_0 h, rv_4 h, n_cl (by omega), n_cl (by omega)]
  show (if f 3 i = 20 then _ else if ¬ f 3 j = 20 then if f 0 i = f 0 j then _ else if ¬ f 3 i = 10 then L_X8_leadsTo_78 en (d + 2) (nI i) (nI j) (f 3 i) (f 3 j) s else if f 4 i = f 0 j then _ else L_X8_leadsTo_78 en (d + 2) (nI i) (nI j) (f 3 i) (f 3 j) s else _) = _
  rw [l_78 h hi hj]
  by_cases a : f 3 i = 20
  · rw [if_pos a, decide_eq_false (fun z => z.1.1 a)]; rfl
  rw [if_neg a]
  by_cases b : f 3 j = 20
  · rw [if_neg (fun z => z b), decide_eq_false (fun z => z.1.2 b)]; rfl
  rw [if_pos b]
  by_cases c : f 0 i = f 0 j
  · rw [if_pos c, decide_eq_true (⟨⟨a, b⟩, Or.inl c⟩ : ldS P f i j)]; rfl
  rw [if_neg c]
  by_cases e : f 3 i = 10
  · rw [if_neg (fun z => z e)]
    by_cases g : f 4 i = f 0 j
    · rw [if_pos g, decide_eq_true (⟨⟨a, b⟩, Or.inr (Or.inl ⟨e, g⟩)⟩ : ldS P f i j)]; rfl
    · rw [if_neg g]
      congr 5
      simp only [decide_eq_decide]
      exact ⟨fun z => ⟨⟨a, b⟩, Or.inr (Or.inr z)⟩, fun z => (z.2.resolve_left c).resolve_left (fun w => g w.2)⟩
  · rw [if_pos e]
    congr 5
    simp only [decide_eq_decide]
    exact ⟨fun z => ⟨⟨a, b⟩, Or.inr (Or.inr z)⟩, fun z => (z.2.resolve_left c).resolve_left (fun w => e w.1)⟩
end RN

