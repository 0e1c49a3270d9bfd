/-! THE READER, the class's side: blame; what reads behind it finds nothing. -/
/-- behind a blame -/
def bmS (s : qS) (k : Int32) : qS := if s.1 65 11 = 0 then uI (uI (uI s 65 11 (if s.1 1 9 = 1 then 1 else k)) 65 12 (s.1 1 10)) 1 9 0 else uI s 1 9 0
/-- what a blame changes -/
abbrev bmF (s s' : qS) : Prop := (∀ c, c ≠ 1 → c ≠ 65 → s'.1 c = s.1 c) ∧ (∀ j, j ≠ 9 → s'.1 1 j = s.1 1 j) ∧ (∀ j, j ≠ 11 → j ≠ 12 → s'.1 65 j = s.1 65 j) ∧ s'.2 = s.2
/-- nothing more is read: the fault F at p stands, or a broken token -/
abbrev dX (s : qS) (F p : Nat) : Prop := (s.1 1 9 = 0 ∧ s.1 65 11 = nI F ∧ s.1 65 12 = nI p ∧ F ≠ 0 ∧ F < 16) ∨ (s.1 1 9 = 1 ∧ s.1 65 11 = 0 ∧ s.1 1 10 = nI p ∧ F = 1)
section BLM
variable {en : pN} {d F p k l : Nat} {s s' s'' : qS}
theorem bmF.rf : bmF s s := ⟨fun _ _ _ => rfl, fun _ _ => rfl, fun _ _ _ => rfl, rfl⟩
theorem bmF.tr' (h : bmF s s') (g : bmF s' s'') : bmF s s'' := ⟨fun c a b => (g.1 c a b).trans (h.1 c a b), fun j a => (g.2.1 j a).trans (h.2.1 j a), fun j a b => (g.2.2.1 j a b).trans (h.2.2.1 j a b), g.2.2.2.trans h.2.2.2⟩
theorem x_blame {k : Int32} : qev en (d + 1) 114 [.ref 65, .int k] s = some (none, bmS s k) := by
  have f38 : ∀ s' : qS, L_X6_blame_38 en d s' = some (none, uI s' 1 9 0) := fun s' => le_X6_blame_38 en _ _ _ (by rw [nm_eq])
  have f24 : ∀ x : Int32, L_X6_blame_24 en d x s = some (none, uI (uI (uI s 65 11 x) 65 12 (s.1 1 10)) 1 9 0) := fun x => by
    refine le_X6_blame_24 en _ _ _ _ ?_
    rw [nm_eq, nm_eq, uI_ne (by decide)]
    exact f38 _
  refine le_X6_blame en _ _ _ _ ?_
  unfold bmS
  by_cases q : s.1 65 11 = 0
  · rw [if_neg (not_not_intro q), if_pos q]
    by_cases q' : s.1 1 9 = 1
    · rw [if_neg (not_not_intro q'), if_pos q']; exact f24 1
    · rw [if_pos q', if_neg q']; exact f24 k
  · rw [if_pos q, if_neg q]; exact f38 s
theorem bmS_F {k : Int32} : bmF s (bmS s k) := by
  unfold bmS
  split
  · refine ⟨fun c h1 h2 => by rw [uI_ne h1, uI_ne h2, uI_ne h2], fun j hj => ?_, fun j h1 h2 => ?_, rfl⟩
    · rw [rdU, if_neg (fun z => hj z.2), uI_ne (by decide), uI_ne (by decide)]
    · rw [uI_ne (by decide), rdU, if_neg (fun z => h2 z.2), rdU, if_neg (fun z => h1 z.2)]
  · exact ⟨fun c h1 h2 => uI_ne h1, fun j hj => by rw [rdU, if_neg (fun z => hj z.2)], fun j h1 h2 => by rw [uI_ne (by decide)], rfl⟩
theorem bmS_0 {k : Int32} : (bmS s k).1 1 9 = 0 := by
  unfold bmS
  split <;> rw [rdU, if_pos ⟨rfl, rfl⟩]
/-- a blame where nothing is read any more -/
theorem bmS_dead {k : Int32} (h : dX s F p) : dX (bmS s k) F p := by
  rcases h with ⟨h1, h2, h3, h4, h5⟩ | ⟨h1, h2, h3, h4⟩
  · have q : ¬ s.1 65 11 = 0 := by rw [h2, n_eq (by decide) (by omega)]; exact h4
    refine Or.inl ⟨bmS_0, ?_, ?_, h4, h5⟩
    · unfold bmS
      rw [if_neg q, uI_ne (by decide)]; exact h2
    · unfold bmS
      rw [if_neg q, uI_ne (by decide)]; exact h3
  · refine Or.inl ⟨bmS_0, ?_, ?_, by omega, by omega⟩
    · unfold bmS
      rw [if_pos h2, if_pos h1, h4]; rfl
    · unfold bmS
      rw [if_pos h2, if_pos h1, uI_ne (by decide), rdU, if_pos ⟨rfl, rfl⟩]; exact h3
/-- the first blame -/
theorem bmS_new {t : Nat} (h0 : s.1 65 11 = 0) (hp : s.1 1 10 = nI p) (hk : s.1 1 9 = nI t) (ht : t < 2 ^ 20) (hk1 : k ≠ 0 ∧ k < 16) : dX (bmS s (nI k)) (if t = 1 then 1 else k) p := by
  by_cases q : t = 1
  · rw [if_pos q]
    exact bmS_dead (Or.inr ⟨by rw [hk, q]; rfl, h0, hp, rfl⟩)
  · rw [if_neg q]
    have q' : ¬ s.1 1 9 = 1 := by rw [hk, n_eq (by decide) (by omega)]; exact q
    refine Or.inl ⟨bmS_0, ?_, ?_, hk1.1, hk1.2⟩
    · unfold bmS
      rw [if_pos h0, if_neg q']; rfl
    · unfold bmS
      rw [if_pos h0, uI_ne (by decide), rdU, if_pos ⟨rfl, rfl⟩]; exact hp
theorem dX_kind (h : dX s F p) : s.1 1 9 = 0 ∨ s.1 1 9 = 1 := by
  rcases h with h | h
  · exact Or.inl h.1
  · exact Or.inr h.1
theorem dX_ne {m : Nat} (h : dX s F p) (hm : 2 ≤ m ∧ m < 2 ^ 31) : ¬ s.1 1 9 = nI m := by
  rcases dX_kind h with q | q <;> rw [q]
  · rw [show (0 : Int32) = nI 0 from rfl, n_EQ (by omega) (by omega)]; omega
  · rw [show (1 : Int32) = nI 1 from rfl, n_EQ (by omega) (by omega)]; omega
/-- nothing more is read: what is needed isn't there -/
theorem x_deadNeed {m : Nat} (h : dX s F p) (hm : 2 ≤ m ∧ m < 2 ^ 31) : qev en (d + 2) 115 [.ref 65, .int (nI m)] s = some (none, bmS s 2) := by
  refine le_X6_need en _ _ _ _ ?_
  rw [if_pos (dX_ne h hm), x_blame, bV_some]
theorem x_deadSkip {m : Nat} (h : dX s F p) (hm : 2 ≤ m ∧ m < 2 ^ 31) : qev en (d + 1) 116 [.ref 65, .int (nI m)] s = some (some (.int 0), s) := by
  refine le_X6_skip en _ _ _ _ ?_
  rw [if_pos (dX_ne h hm)]
  refine le_X6_skip_16 en _ _ _ _ ?_
  rw [if_pos rfl, gd_true (Or.inl rfl)]
/-- no operand, no operator -/
theorem x_deadOne (h : dX s F p) {a : Int32} : qev en (d + 2) 139 [.ref 65, .int a] s = some (none, bmS s 2) := by
  have e137 : qev en (d + 1) 137 [.ref 65, .int (s.1 1 9)] s = some (some (.int 0), s) := by
    have f23 : ∀ x : Int32, x = 0 ∨ x = 1 → L_X6_beginsOne_23 en d x s = some (some (.int 0), s) := fun x hx => by
      refine le_X6_beginsOne_23 en _ _ _ _ ?_
      rcases hx with rfl | rfl <;> rw [if_neg (by decide), if_neg (by decide), if_neg (by decide), if_neg (by decide), if_pos (by decide)]
    refine le_X6_beginsOne en _ _ _ _ ?_
    have hk := dX_kind h
    by_cases q : s.1 65 8 = 0
    · rw [if_pos q]; exact f23 _ hk
    · rw [if_neg q, if_pos (by rcases hk with q | q <;> rw [q] <;> decide)]; exact f23 _ hk
  refine le_X6_readOne en _ _ _ _ ?_
  rw [e137, bI_some, if_neg (not_not_intro rfl), x_blame, bV_some]
theorem x_deadLevelOf {x : Int32} (h : x = 0 ∨ x = 1) : qev en (d + 1) 133 [.int x] s = some (some (.int (-1)), s) := by
  refine le_X6_levelOf en _ _ _ _ ?_
  rcases h with rfl | rfl <;> rfl
/-- no expression -/
theorem x_deadLevel {a : Int32} : ∀ (m l : Nat) (s : qS), l + m = 4 → dX s F p → ∃ s', qev en (d + 2 * m + 4) 134 [.ref 65, .int (nI l), .int a] s = some (none, s') ∧ bmF s s' ∧ dX s' F p := by
  intro m
  induction m with
  | zero =>
    intro l s hl h
    have hl4 : l = 4 := by omega
    subst hl4
    have hd := bmS_dead (k := 2) h
    refine ⟨bmS s 2, le_X6_readLevel en _ _ _ _ _ ?_, bmS_F, hd⟩
    have e135 : qev en (d + 3) 135 [.ref 65, .int (nI 4 + (1 : Int32)), .int a] s = some (none, bmS s 2) := by
      refine le_X6_readSide en _ _ _ _ _ ?_
      rw [if_pos (by decide), x_deadOne h, bV_some]
    rw [show d + 2 * 0 + 3 = d + 3 from rfl, e135, bV_some]
    refine le_X6_readLevel_10 en _ _ _ _ _ _ ?_
    rw [if_neg (by decide), x_deadLevelOf (dX_kind hd), bI_some, if_pos (by decide)]
  | succ m ih =>
    intro l s hl h
    obtain ⟨s', y1, y2, y3⟩ := ih (l + 1) s (by omega) h
    refine ⟨s', le_X6_readLevel en _ _ _ _ _ ?_, y2, y3⟩
    have e135 : qev en (d + 2 * m + 5) 135 [.ref 65, .int (nI l + (1 : Int32)), .int a] s = some (none, s') := by
      refine le_X6_readSide en _ _ _ _ _ ?_
      rw [show nI l + (1 : Int32) = nI (l + 1) from n_ar, if_neg (by rw [n_le (by decide) (by omega)]; omega), y1, bV_some]
    rw [show d + 2 * (m + 1) + 3 = d + 2 * m + 5 by omega, e135, bV_some]
    refine le_X6_readLevel_10 en _ _ _ _ _ _ ?_
    rw [if_neg (by decide), x_deadLevelOf (dX_kind y3), bI_some, if_pos (fun z => by
      have := (n_m1 (show l < 2 ^ 31 by omega)).mp z.symm
      exact this)]
end BLM

