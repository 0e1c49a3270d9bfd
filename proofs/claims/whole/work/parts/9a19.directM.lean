/-! THE RUN: what its steps say of each other, the model's side. s: any state; g: its rows of steps; V: its row of volatile cells. -/
abbrev RM (s : qS) (g : Nat → fI) (V : fI) : Prop := (∀ k, k < 5 → s.1 (193 + k) = g k) ∧ s.1 155 = V
abbrev gvM (g : Nat → fI) (V : fI) (i : Nat) : Prop := (g 3 i = 2 ∧ ¬ V (clp (g 4 i)) = 0) ∨ (g 3 i = 3 ∨ g 3 i = 4)
abbrev tkM (g : Nat → fI) (V : fI) (i : Nat) : Prop := (g 3 i = 1 ∧ ¬ V (clp (g 4 i)) = 0) ∨ (g 3 i = 3 ∨ g 3 i = 4)
abbrev nmM (g : Nat → fI) (i : Nat) : Prop := g 3 i = 1 ∨ g 3 i = 2 → p_inB (g 4 i) 8 = true
section RMn
variable {en : pN} {d : Nat} {s : qS} {i j : Nat} {g : Nat → fI} {V : fI} {a b x y z : Int32}
theorem rm_0 (h : RM s g V) : s.1 193 = g 0 := h.1 0 (by decide)
theorem rm_3 (h : RM s g V) : s.1 196 = g 3 := h.1 3 (by decide)
theorem rm_4 (h : RM s g V) : s.1 197 = g 4 := h.1 4 (by decide)
theorem m_atO : qev en (d + 1) 343 [.int a] s = some (some (.int (bt (decide (a = 3 ∨ a = 4)))), s) := by
  refine le_X12_isAtOnce en d _ _ _ ?_
  by_cases h3 : a = 3
  · rw [if_pos h3, decide_eq_true (Or.inl h3)]; rfl
  rw [if_neg h3]
  by_cases h4 : a = 4
  · rw [if_neg (fun z => z h4), decide_eq_true (Or.inr h4)]; rfl
  · rw [if_pos h4, decide_eq_false (fun z => z.elim h3 h4)]; rfl
theorem k_244 : L_X12_isDirect_244 en d a b s = some (some (.int (bt (decide (a = 12 ∧ b = 12)))), s) := by
  refine le_X12_isDirect_244 en d _ _ _ _ ?_
  by_cases h : a = 12
  · rw [if_neg (fun z => z h)]
    by_cases q : b = 12
    · rw [if_neg (fun z => z q), decide_eq_true ⟨h, q⟩]; rfl
    · rw [if_pos q, decide_eq_false (fun z => q z.2)]; rfl
  · rw [if_pos h, decide_eq_false (fun z => h z.1)]; rfl
theorem r_or {X Y Z : Prop} [Decidable X] [Decidable Y] [Decidable Z] (h : X ↔ Y) : (some (some (.int (bt (decide X))), s) : Option qR) = some (some (.int (bt (decide Y))), s) := by
  congr 5
  exact decide_eq_decide.mpr h
theorem r_tt {Y : Prop} [Decidable Y] (h : Y) : (some (some (.int (1 : Int32)), s) : Option qR) = some (some (.int (bt (decide Y))), s) := by
  rw [decide_eq_true h]; rfl
theorem r_ff {Y : Prop} [Decidable Y] (h : ¬ Y) : (some (some (.int (0 : Int32)), s) : Option qR) = some (some (.int (bt (decide Y))), s) := by
  rw [decide_eq_false h]; rfl
theorem k_229 : L_X12_isDirect_229 en d a b x y z s = some (some (.int (bt (decide ((x ≠ 0 ∧ y ≠ 0 ∧ z ≠ 0) ∨ (a = 12 ∧ b = 12))))), s) := by
  refine le_X12_isDirect_229 en d _ _ _ _ _ _ _ ?_
  rw [k_244]
  by_cases h1 : x = 0
  · rw [if_pos h1]
    exact r_or (Z := True) ⟨Or.inr, fun w => w.resolve_left (fun w => w.1 h1)⟩
  rw [if_neg h1]
  by_cases h2 : y = 0
  · rw [if_pos h2]
    exact r_or (Z := True) ⟨Or.inr, fun w => w.resolve_left (fun w => w.2.1 h2)⟩
  rw [if_neg h2]
  by_cases h3 : z = 0
  · rw [if_neg (fun w => w h3)]
    exact r_or (Z := True) ⟨Or.inr, fun w => w.resolve_left (fun w => w.2.2 h3)⟩
  · rw [if_pos h3]
    exact r_tt (Or.inl ⟨h1, h2, h3⟩)
theorem k_216 : L_X12_isDirect_216 en d a b x y z s = some (some (.int (bt (decide ((b = 5 ∨ b = 19) ∨ (x ≠ 0 ∧ y ≠ 0 ∧ z ≠ 0) ∨ (a = 12 ∧ b = 12))))), s) := by
  refine le_X12_isDirect_216 en d _ _ _ _ _ _ _ ?_
  rw [k_229]
  by_cases h1 : b = 5
  · rw [if_pos h1]; exact r_tt (Or.inl (Or.inl h1))
  rw [if_neg h1]
  by_cases h2 : b = 19
  · rw [if_pos h2]; exact r_tt (Or.inl (Or.inr h2))
  · rw [if_neg h2]
    exact r_or (Z := True) ⟨Or.inr, fun w => w.resolve_left (fun w => w.elim h1 h2)⟩
theorem k_199 : L_X12_isDirect_199 en d a b x y z s = some (some (.int (bt (decide ((x ≠ 0 ∧ (a = 6 ∨ a = 7) ∧ (b = 5 ∨ b = 19)) ∨ (x ≠ 0 ∧ y ≠ 0 ∧ z ≠ 0) ∨ (a = 12 ∧ b = 12))))), s) := by
  refine le_X12_isDirect_199 en d _ _ _ _ _ _ _ ?_
  rw [k_216, k_229]
  by_cases h1 : x = 0
  · rw [if_pos h1]
    exact r_or (Z := True) ⟨Or.inr, fun w => w.resolve_left (fun w => w.1 h1)⟩
  rw [if_neg h1]
  by_cases h2 : a = 6
  · rw [if_pos h2]
    exact r_or (Z := True) ⟨fun w => w.imp (fun w => ⟨h1, Or.inl h2, w⟩) id, fun w => w.imp (fun w => w.2.2) id⟩
  rw [if_neg h2]
  by_cases h3 : a = 7
  · rw [if_neg (fun w => w h3)]
    exact r_or (Z := True) ⟨fun w => w.imp (fun w => ⟨h1, Or.inr h3, w⟩) id, fun w => w.imp (fun w => w.2.2) id⟩
  · rw [if_pos h3]
    exact r_or (Z := True) ⟨Or.inr, fun w => w.resolve_left (fun w => w.2.1.elim h2 h3)⟩
theorem k_177 (h : RM s g V) (hi : i < 200) (hj : j < 200) : L_X12_isDirect_177 en d (nI i) (nI j) a b x y z s = some (some (.int (bt (decide ((b = 11 ∧ g 4 j = g 0 i) ∨ (x ≠ 0 ∧ (a = 6 ∨ a = 7) ∧ (b = 5 ∨ b = 19)) ∨ (x ≠ 0 ∧ y ≠ 0 ∧ z ≠ 0) ∨ (a = 12 ∧ b = 12))))), s) := by
  refine le_X12_isDirect_177 en d _ _ _ _ _ _ _ _ _ ?_
  rw [k_199, gd_true (n_in hi (by decide)), gd_true (n_in hj (by decide)), rm_4 h, rm_0 h, n_cl (by omega), n_cl (by omega)]
  by_cases h1 : b = 11
  · rw [if_neg (fun w => w h1)]
    by_cases h2 : g 4 j = g 0 i
    · rw [if_pos h2]; exact r_tt (Or.inl ⟨h1, h2⟩)
    · rw [if_neg h2]
      exact r_or (Z := True) ⟨Or.inr, fun w => w.resolve_left (fun w => h2 w.2)⟩
  · rw [if_pos h1]
    exact r_or (Z := True) ⟨Or.inr, fun w => w.resolve_left (fun w => h1 w.1)⟩
theorem k_154 (h : RM s g V) (hi : i < 200) (hj : j < 200) : L_X12_isDirect_154 en d (nI i) (nI j) a b x y z s = some (some (.int (bt (decide ((a = 10 ∧ g 4 i = g 0 j) ∨ (b = 11 ∧ g 4 j = g 0 i) ∨ (x ≠ 0 ∧ (a = 6 ∨ a = 7) ∧ (b = 5 ∨ b = 19)) ∨ (x ≠ 0 ∧ y ≠ 0 ∧ z ≠ 0) ∨ (a = 12 ∧ b = 12))))), s) := by
  refine le_X12_isDirect_154 en d _ _ _ _ _ _ _ _ _ ?_
  rw [k_177 h hi hj, gd_true (n_in hi (by decide)), gd_true (n_in hj (by decide)), rm_4 h, rm_0 h, n_cl (by omega), n_cl (by omega)]
  by_cases h1 : a = 10
  · rw [if_neg (fun w => w h1)]
    by_cases h2 : g 4 i = g 0 j
    · rw [if_pos h2]; exact r_tt (Or.inl ⟨h1, h2⟩)
    · rw [if_neg h2]
      exact r_or (Z := True) ⟨Or.inr, fun w => w.resolve_left (fun w => h2 w.2)⟩
  · rw [if_pos h1]
    exact r_or (Z := True) ⟨Or.inr, fun w => w.resolve_left (fun w => h1 w.1)⟩
theorem k_141 (h : RM s g V) (hi : i < 200) (hj : j < 200) : L_X12_isDirect_141 en (d + 1) (nI i) (nI j) a b x y s = some (some (.int (bt (decide ((a = 10 ∧ g 4 i = g 0 j) ∨ (b = 11 ∧ g 4 j = g 0 i) ∨ (x ≠ 0 ∧ (a = 6 ∨ a = 7) ∧ (b = 5 ∨ b = 19)) ∨ (x ≠ 0 ∧ y ≠ 0 ∧ (b = 3 ∨ b = 4)) ∨ (a = 12 ∧ b = 12))))), s) := by
  refine le_X12_isDirect_141 en (d + 1) _ _ _ _ _ _ _ _ ?_
  rw [m_atO, bI_some, k_154 h hi hj, k_154 h hi hj]
  show (if bt (decide (b = 3 ∨ b = 4)) = 0 then _ else _) = _
  rw [ibd]
  by_cases q : b = 3 ∨ b = 4
  · rw [if_pos q]
    refine r_or (Z := True) ⟨fun w => w.imp id (fun w => w.imp id (fun w => w.imp id (fun w => w.imp (fun w => ⟨w.1, w.2.1, q⟩) id))), fun w => w.imp id (fun w => w.imp id (fun w => w.imp id (fun w => w.imp (fun w => ⟨w.1, w.2.1, by decide⟩) id)))⟩
  · rw [if_neg q]
    refine r_or (Z := True) ⟨fun w => w.imp id (fun w => w.imp id (fun w => w.imp id (fun w => w.imp (fun w => absurd rfl w.2.2) id))), fun w => w.imp id (fun w => w.imp id (fun w => w.imp id (fun w => w.imp (fun w => absurd w.2.2 q) id)))⟩
theorem k_109 (h : RM s g V) (hn : nmM g j) (hi : i < 200) (hj : j < 200) : L_X12_isDirect_109 en (d + 1) (nI i) (nI j) a (g 3 j) x y s = some (some (.int (bt (decide ((a = 10 ∧ g 4 i = g 0 j) ∨ (g 3 j = 11 ∧ g 4 j = g 0 i) ∨ (x ≠ 0 ∧ (a = 6 ∨ a = 7) ∧ (g 3 j = 5 ∨ g 3 j = 19)) ∨ (x ≠ 0 ∧ y ≠ 0 ∧ tkM g V j) ∨ (a = 12 ∧ g 3 j = 12))))), s) := by
  refine le_X12_isDirect_109 en (d + 1) _ _ _ _ _ _ _ _ ?_
  rw [k_141 h hi hj]
  by_cases q : g 3 j = 1
  · rw [if_neg (fun w => w q), if_neg (fun w => w q), gd_true (n_in hj (by decide)), rm_4 h, n_cl (by omega)]
    refine le_X12_isDirect_137 en (d + 1) _ _ _ _ _ _ _ _ _ ?_
    rw [gd_true (hn (Or.inl q)), k_154 h hi hj, k_141 h hi hj, h.2]
    by_cases v : V (clp (g 4 j)) = 0
    · rw [if_neg (fun w => w v)]
      refine r_or (Z := True) ⟨fun w => w.imp id (fun w => w.imp id (fun w => w.imp id (fun w => w.imp (fun w => ⟨w.1, w.2.1, Or.inr w.2.2⟩) id))), fun w => w.imp id (fun w => w.imp id (fun w => w.imp id (fun w => w.imp (fun w => ⟨w.1, w.2.1, w.2.2.resolve_left (fun w => w.2 v)⟩) id)))⟩
    · rw [if_pos v]
      refine r_or (Z := True) ⟨fun w => w.imp id (fun w => w.imp id (fun w => w.imp id (fun w => w.imp (fun w => ⟨w.1, w.2.1, Or.inl ⟨q, v⟩⟩) id))), fun w => w.imp id (fun w => w.imp id (fun w => w.imp id (fun w => w.imp (fun w => ⟨w.1, w.2.1, by decide⟩) id)))⟩
  · rw [if_pos q]
    refine r_or (Z := True) ⟨fun w => w.imp id (fun w => w.imp id (fun w => w.imp id (fun w => w.imp (fun w => ⟨w.1, w.2.1, Or.inr w.2.2⟩) id))), fun w => w.imp id (fun w => w.imp id (fun w => w.imp id (fun w => w.imp (fun w => ⟨w.1, w.2.1, w.2.2.resolve_left (fun w => q w.1)⟩) id)))⟩
theorem k_97 (h : RM s g V) (hn : nmM g j) (hi : i < 200) (hj : j < 200) : L_X12_isDirect_97 en (d + 1) (nI i) (nI j) a (g 3 j) x s = some (some (.int (bt (decide ((a = 10 ∧ g 4 i = g 0 j) ∨ (g 3 j = 11 ∧ g 4 j = g 0 i) ∨ (x ≠ 0 ∧ (a = 6 ∨ a = 7) ∧ (g 3 j = 5 ∨ g 3 j = 19)) ∨ (x ≠ 0 ∧ (a = 3 ∨ a = 4) ∧ tkM g V j) ∨ (a = 12 ∧ g 3 j = 12))))), s) := by
  refine le_X12_isDirect_97 en (d + 1) _ _ _ _ _ _ _ ?_
  rw [m_atO, bI_some, k_109 h hn hi hj, k_109 h hn hi hj]
  show (if bt (decide (a = 3 ∨ a = 4)) = 0 then _ else _) = _
  rw [ibd]
  by_cases q : a = 3 ∨ a = 4
  · rw [if_pos q]
    refine r_or (Z := True) ⟨fun w => w.imp id (fun w => w.imp id (fun w => w.imp id (fun w => w.imp (fun w => ⟨w.1, q, w.2.2⟩) id))), fun w => w.imp id (fun w => w.imp id (fun w => w.imp id (fun w => w.imp (fun w => ⟨w.1, by decide, w.2.2⟩) id)))⟩
  · rw [if_neg q]
    refine r_or (Z := True) ⟨fun w => w.imp id (fun w => w.imp id (fun w => w.imp id (fun w => w.imp (fun w => absurd rfl w.2.1) id))), fun w => w.imp id (fun w => w.imp id (fun w => w.imp id (fun w => w.imp (fun w => absurd w.2.1 q) id)))⟩
theorem k_67 (h : RM s g V) (hn : nmM g j) (hn' : nmM g i) (hi : i < 200) (hj : j < 200) : L_X12_isDirect_67 en (d + 1) (nI i) (nI j) (g 3 i) (g 3 j) x s = some (some (.int (bt (decide ((g 3 i = 10 ∧ g 4 i = g 0 j) ∨ (g 3 j = 11 ∧ g 4 j = g 0 i) ∨ (x ≠ 0 ∧ (g 3 i = 6 ∨ g 3 i = 7) ∧ (g 3 j = 5 ∨ g 3 j = 19)) ∨ (x ≠ 0 ∧ gvM g V i ∧ tkM g V j) ∨ (g 3 i = 12 ∧ g 3 j = 12))))), s) := by
  refine le_X12_isDirect_67 en (d + 1) _ _ _ _ _ _ _ ?_
  rw [k_97 h hn hi hj]
  by_cases q : g 3 i = 2
  · rw [if_neg (fun w => w q), if_neg (fun w => w q), gd_true (n_in hi (by decide)), rm_4 h, n_cl (by omega)]
    refine le_X12_isDirect_93 en (d + 1) _ _ _ _ _ _ _ _ ?_
    rw [gd_true (hn' (Or.inr q)), k_109 h hn hi hj, k_97 h hn hi hj, h.2]
    by_cases v : V (clp (g 4 i)) = 0
    · rw [if_neg (fun w => w v)]
      refine r_or (Z := True) ⟨fun w => w.imp id (fun w => w.imp id (fun w => w.imp id (fun w => w.imp (fun w => ⟨w.1, Or.inr w.2.1, w.2.2⟩) id))), fun w => w.imp id (fun w => w.imp id (fun w => w.imp id (fun w => w.imp (fun w => ⟨w.1, w.2.1.resolve_left (fun w => w.2 v), w.2.2⟩) id)))⟩
    · rw [if_pos v]
      refine r_or (Z := True) ⟨fun w => w.imp id (fun w => w.imp id (fun w => w.imp id (fun w => w.imp (fun w => ⟨w.1, Or.inl ⟨q, v⟩, w.2.2⟩) id))), fun w => w.imp id (fun w => w.imp id (fun w => w.imp id (fun w => w.imp (fun w => ⟨w.1, by decide, w.2.2⟩) id)))⟩
  · rw [if_pos q]
    refine r_or (Z := True) ⟨fun w => w.imp id (fun w => w.imp id (fun w => w.imp id (fun w => w.imp (fun w => ⟨w.1, Or.inr w.2.1, w.2.2⟩) id))), fun w => w.imp id (fun w => w.imp id (fun w => w.imp id (fun w => w.imp (fun w => ⟨w.1, w.2.1.resolve_left (fun w => q w.1), w.2.2⟩) id)))⟩
abbrev ldM (g : Nat → fI) (V : fI) (i j : Nat) : Prop := (g 3 i ≠ 20 ∧ g 3 j ≠ 20) ∧ (g 0 i = g 0 j ∨ ((g 3 i = 10 ∧ g 4 i = g 0 j) ∨ (g 3 j = 11 ∧ g 4 j = g 0 i) ∨ (g 4 i = g 4 j ∧ (g 3 i = 6 ∨ g 3 i = 7) ∧ (g 3 j = 5 ∨ g 3 j = 19)) ∨ (g 4 i = g 4 j ∧ gvM g V i ∧ tkM g V j) ∨ (g 3 i = 12 ∧ g 3 j = 12)))
theorem m_direct (h : RM s g V) (hn : nmM g j) (hn' : nmM g i) (hi : i < 200) (hj : j < 200) : qev en (d + 2) 344 [.ref 151, .int (nI i), .int (nI j)] s = some (some (.int (bt (decide (ldM g V i j)))), s) := by
  refine le_X12_isDirect en (d + 1) _ _ _ _ ?_
  rw [gd_true (n_in hi (by decide))]
  show gd (p_inB (nI j) 200 = true) _ = _
  rw [gd_true (n_in hj (by decide)), rm_3 h, rm_0 h, rm_4 h, n_cl (by omega), n_cl (by omega)]
  show (if g 3 i = 20 then _ else if ¬ g 3 j = 20 then if ¬ g 0 i = g 0 j then if ¬ g 4 i = g 4 j then L_X12_isDirect_67 en (d + 1) (nI i) (nI j) (g 3 i) (g 3 j) 0 s else L_X12_isDirect_67 en (d + 1) (nI i) (nI j) (g 3 i) (g 3 j) 1 s else _ else _) = _
  rw [k_67 h hn hn' hi hj, k_67 h hn hn' hi hj]
  by_cases p : g 3 i = 20
  · rw [if_pos p]; exact r_ff (fun w => w.1.1 p)
  rw [if_neg p]
  by_cases q : g 3 j = 20
  · rw [if_neg (fun w => w q)]; exact r_ff (fun w => w.1.2 q)
  rw [if_pos q]
  by_cases c : g 0 i = g 0 j
  · rw [if_neg (fun w => w c)]; exact r_tt ⟨⟨p, q⟩, Or.inl c⟩
  rw [if_pos c]
  by_cases e : g 4 i = g 4 j
  · rw [if_neg (fun w => w e)]
    refine r_or (Z := True) ⟨fun w => ⟨⟨p, q⟩, Or.inr (w.imp id (fun w => w.imp id (fun w => w.imp (fun w => ⟨e, w.2⟩) (fun w => w.imp (fun w => ⟨e, w.2⟩) id))))⟩, fun w => (w.2.resolve_left c).imp id (fun w => w.imp id (fun w => w.imp (fun w => ⟨by decide, w.2⟩) (fun w => w.imp (fun w => ⟨by decide, w.2⟩) id)))⟩
  · rw [if_pos e]
    refine r_or (Z := True) ⟨fun w => ⟨⟨p, q⟩, Or.inr (w.imp id (fun w => w.imp id (fun w => w.imp (fun w => absurd rfl w.1) (fun w => w.imp (fun w => absurd rfl w.1) id))))⟩, fun w => (w.2.resolve_left c).imp id (fun w => w.imp id (fun w => w.imp (fun w => absurd w.1 e) (fun w => w.imp (fun w => absurd w.1 e) id)))⟩
theorem k_76 : L_X12_areRacing_76 en (d + 1) a b s = some (some (.int (bt (decide (b = 1 ∧ (a = 3 ∨ a = 4))))), s) := by
  refine le_X12_areRacing_76 en (d + 1) _ _ _ _ ?_
  by_cases q : b = 1
  · rw [if_neg (fun w => w q), m_atO, bI_some]
    show (if bt (decide (a = 3 ∨ a = 4)) = 0 then _ else _) = _
    rw [ibd]
    by_cases z : a = 3 ∨ a = 4
    · rw [if_pos z]; exact r_tt ⟨q, z⟩
    · rw [if_neg z]; exact r_ff (fun w => z w.2)
  · rw [if_pos q]; exact r_ff (fun w => q w.1)
theorem k_45 : L_X12_areRacing_45 en (d + 1) a b x y s = some (some (.int (bt (decide (x ≠ 0 ∧ y ≠ 0 ∧ ((a = 2 ∨ b = 2) ∨ (a = 1 ∧ (b = 3 ∨ b = 4)) ∨ (b = 1 ∧ (a = 3 ∨ a = 4))))))), s) := by
  refine le_X12_areRacing_45 en (d + 1) _ _ _ _ _ _ ?_
  by_cases h1 : x = 0
  · rw [if_pos h1]; exact r_ff (fun w => w.1 h1)
  rw [if_neg h1]
  by_cases h2 : y = 0
  · rw [if_pos h2]; exact r_ff (fun w => w.2.1 h2)
  rw [if_neg h2]
  by_cases h3 : a = 2
  · rw [if_pos h3]; exact r_tt ⟨h1, h2, Or.inl (Or.inl h3)⟩
  rw [if_neg h3]
  by_cases h4 : b = 2
  · rw [if_pos h4]; exact r_tt ⟨h1, h2, Or.inl (Or.inr h4)⟩
  rw [if_neg h4, k_76]
  by_cases h5 : a = 1
  · rw [if_neg (fun w => w h5), m_atO, bI_some]
    show (if ¬ bt (decide (b = 3 ∨ b = 4)) = 0 then _ else _) = _
    rw [ibn]
    by_cases z : b = 3 ∨ b = 4
    · rw [if_pos z]; exact r_tt ⟨h1, h2, Or.inr (Or.inl ⟨h5, z⟩)⟩
    · rw [if_neg z, k_76]
      exact r_or (Z := True) ⟨fun w => ⟨h1, h2, Or.inr (Or.inr w)⟩, fun w => (w.2.2.resolve_left (fun w => w.elim h3 h4)).resolve_left (fun w => z w.2)⟩
  · rw [if_pos h5]
    exact r_or (Z := True) ⟨fun w => ⟨h1, h2, Or.inr (Or.inr w)⟩, fun w => (w.2.2.resolve_left (fun w => w.elim h3 h4)).resolve_left (fun w => h5 w.1)⟩
abbrev toM (a : Int32) : Prop := a = 1 ∨ a = 2 ∨ (a = 3 ∨ a = 4)
theorem k_22 : L_X12_areRacing_22 en (d + 1) a b x s = some (some (.int (bt (decide (toM b ∧ x ≠ 0 ∧ ((a = 2 ∨ b = 2) ∨ (a = 1 ∧ (b = 3 ∨ b = 4)) ∨ (b = 1 ∧ (a = 3 ∨ a = 4))))))), s) := by
  refine le_X12_areRacing_22 en (d + 1) _ _ _ _ _ ?_
  have yes : toM b → L_X12_areRacing_45 en (d + 1) a b x 1 s = some (some (.int (bt (decide (toM b ∧ x ≠ 0 ∧ ((a = 2 ∨ b = 2) ∨ (a = 1 ∧ (b = 3 ∨ b = 4)) ∨ (b = 1 ∧ (a = 3 ∨ a = 4))))))), s) := by
    intro z
    rw [k_45]
    exact r_or (Z := True) ⟨fun w => ⟨z, w.1, w.2.2⟩, fun w => ⟨w.2.1, by decide, w.2.2⟩⟩
  by_cases h1 : b = 1
  · rw [if_pos h1]; exact yes (Or.inl h1)
  rw [if_neg h1]
  by_cases h2 : b = 2
  · rw [if_pos h2]; exact yes (Or.inr (Or.inl h2))
  rw [if_neg h2, m_atO, bI_some]
  show (if bt (decide (b = 3 ∨ b = 4)) = 0 then _ else _) = _
  rw [ibd]
  by_cases z : b = 3 ∨ b = 4
  · rw [if_pos z]; exact yes (Or.inr (Or.inr z))
  · rw [if_neg z, k_45]
    exact r_or (Z := True) ⟨fun w => absurd rfl w.2.1, fun w => absurd w.1 (fun w => w.elim h1 (fun w => w.elim h2 z))⟩
abbrev rgM (a b : Int32) : Prop := toM b ∧ toM a ∧ ((a = 2 ∨ b = 2) ∨ (a = 1 ∧ (b = 3 ∨ b = 4)) ∨ (b = 1 ∧ (a = 3 ∨ a = 4)))
theorem m_racing : qev en (d + 2) 347 [.int a, .int b] s = some (some (.int (bt (decide (rgM a b)))), s) := by
  refine le_X12_areRacing en (d + 1) _ _ _ _ ?_
  have yes : toM a → L_X12_areRacing_22 en (d + 1) a b 1 s = some (some (.int (bt (decide (rgM a b)))), s) := by
    intro z
    rw [k_22]
    exact r_or (Z := True) ⟨fun w => ⟨w.1, z, w.2.2⟩, fun w => ⟨w.1, by decide, w.2.2⟩⟩
  by_cases h1 : a = 1
  · rw [if_pos h1]; exact yes (Or.inl h1)
  rw [if_neg h1]
  by_cases h2 : a = 2
  · rw [if_pos h2]; exact yes (Or.inr (Or.inl h2))
  rw [if_neg h2, m_atO, bI_some]
  show (if bt (decide (a = 3 ∨ a = 4)) = 0 then _ else _) = _
  rw [ibd]
  by_cases z : a = 3 ∨ a = 4
  · rw [if_pos z]; exact yes (Or.inr (Or.inr z))
  · rw [if_neg z, k_22]
    exact r_or (Z := True) ⟨fun w => absurd rfl w.2.1, fun w => absurd w.2.1 (fun w => w.elim h1 (fun w => w.elim h2 z))⟩
end RMn
