/-! THE READER: a whole program on both sides. -/
/-- what a call that reads changes of the class, but for its own fields -/
abbrev pgX (s s' : qS) : Prop := (∀ a, a ≠ 65 → a ≠ 68 → ¬ sT a → (a < 7 ∨ a = 10 ∨ 35 < a) → s'.1 a = s.1 a) ∧ (∀ j, j ≠ 3 → s'.1 7 j = s.1 7 j) ∧ (∀ j, j < 7 ∨ (8 < j ∧ j < 11) ∨ 14 < j → s'.1 65 j = s.1 65 j) ∧ (∀ a, ¬ sT a → a ≠ 12 → a ≠ 13 → a ≠ 67 → s'.2.1 a = s.2.1 a) ∧ ∀ a k, ¬ sT a → ¬ (a = 65 ∧ k = 7) → s'.2.2 a k = s.2.2 a k
section RPG
variable {en : pN} {d d' k i n N j r v u m nc nl nt q : Nat} {V cl th K : Nat → Nat} {U : Nat → Nat → Nat} {bl : Nat → List Nat} {s s' s'' t t' : qS} {B : Nat → Nat} {w : Int32}
theorem pgX.rf : pgX s s := ⟨fun _ _ _ _ _ => rfl, fun _ _ => rfl, fun _ _ => rfl, fun _ _ _ _ _ => rfl, fun _ _ _ _ => rfl⟩
theorem pgX.tr (h : pgX s s') (g : pgX s' s'') : pgX s s'' := ⟨fun a h1 h2 h3 h4 => (g.1 a h1 h2 h3 h4).trans (h.1 a h1 h2 h3 h4), fun j a => (g.2.1 j a).trans (h.2.1 j a), fun j a => (g.2.2.1 j a).trans (h.2.2.1 j a), fun a h1 h2 h3 h4 => (g.2.2.2.1 a h1 h2 h3 h4).trans (h.2.2.2.1 a h1 h2 h3 h4), fun a k h1 h2 => (g.2.2.2.2 a k h1 h2).trans (h.2.2.2.2 a k h1 h2)⟩
theorem sT_1 : sT 1 := ⟨by decide, by decide⟩
theorem pgX.tq (h : tqX s s') : pgX s s' := ⟨fun a h1 h2 h3 h4 => h.1 a (fun z => h3 (z ▸ sT_1)) h1 h2 h4, h.2.2.1, fun j hj => by
  by_cases z : j < 11
  · exact h.2.2.2.1 j (Or.inl z)
  · exact h.2.2.2.1 j (Or.inr (by omega)), fun a h1 h2 h3 h4 => h.2.2.2.2.1 a (fun z => h1 (z ▸ sT_1)) h4 (by omega), fun a k _ _ => by rw [h.2.2.2.2.2]⟩
theorem pgX.ox (h : oxF 7 s s') : pgX s s' := ⟨fun a h1 h2 h3 h4 => h.1 a h1 (by omega) h3, h.2.1, fun j hj => h.2.2.1 j (by omega) (by omega) (by omega) (by omega), fun a h1 _ _ _ => h.2.2.2.1 a h1, h.2.2.2.2⟩
theorem pgX.ui (ha : 11 ≤ q ∧ q ≤ 35) : pgX s (uI s q j w) := pgX.tq (tqX.ui ha)
/-- the class's program forgets all -/
def pcS (s : qS) : qS := uI (uI (uI (uI (uI (uI (uI (uI (uIr (uJr s 12 (fun j => if j < ln 12 then 0 else s.2.1 12 j)) 14 (fun j => if j < ln 14 then 0 else s.1 14 j)) 7 3 0) 11 7 0) 11 8 0) 11 9 0) 11 10 0) 11 11 0) 11 12 0) 11 13 0
theorem x_clearP : qev en (d + 2) 81 [.ref 11] s = some (none, pcS s) := by
  refine le_X5_clear en (d + 1) 11 s _ ?_
  rw [gd_true lc_11, c_fillJ (a := 11 + 1) lc_12 (by rw [show ln (11 + 1) = 16 from ln_12]; decide), bV_some, c_fillI (a := 11 + 3) lc_14 (by rw [show ln (11 + 3) = 4 from ln_14]; decide), bV_some]
  rfl
theorem pcS_o {a : Nat} (h1 : a ≠ 7) (h2 : a ≠ 11) (h3 : a ≠ 14) : (pcS s).1 a = s.1 a := by
  unfold pcS
  rw [uI_ne h2, uI_ne h2, uI_ne h2, uI_ne h2, uI_ne h2, uI_ne h2, uI_ne h2, uI_ne h1, uIr_ne h3]
  rfl
theorem pcS_11 (h : 7 ≤ j ∧ j ≤ 13) : (pcS s).1 11 j = 0 := by
  unfold pcS
  have : j = 13 ∨ j = 12 ∨ j = 11 ∨ j = 10 ∨ j = 9 ∨ j = 8 ∨ j = 7 := by omega
  rcases this with rfl | rfl | rfl | rfl | rfl | rfl | rfl
  · exact rdW
  · rw [rdU, if_neg (by decide)]; exact rdW
  · rw [rdU, if_neg (by decide), rdU, if_neg (by decide)]; exact rdW
  · rw [rdU, if_neg (by decide), rdU, if_neg (by decide), rdU, if_neg (by decide)]; exact rdW
  · rw [rdU, if_neg (by decide), rdU, if_neg (by decide), rdU, if_neg (by decide), rdU, if_neg (by decide)]; exact rdW
  · rw [rdU, if_neg (by decide), rdU, if_neg (by decide), rdU, if_neg (by decide), rdU, if_neg (by decide), rdU, if_neg (by decide)]; exact rdW
  · rw [rdU, if_neg (by decide), rdU, if_neg (by decide), rdU, if_neg (by decide), rdU, if_neg (by decide), rdU, if_neg (by decide), rdU, if_neg (by decide)]; exact rdW
theorem pcS_14 (h : j < 4) : (pcS s).1 14 j = 0 := by
  unfold pcS
  rw [uI_ne (by decide), uI_ne (by decide), uI_ne (by decide), uI_ne (by decide), uI_ne (by decide), uI_ne (by decide), uI_ne (by decide), uI_ne (by decide)]
  rw [g_Ir, if_pos rfl, show ln 14 = 4 from ln_14, if_pos h]
theorem pcS_7 (h : j ≠ 3) : (pcS s).1 7 j = s.1 7 j := by
  unfold pcS
  rw [uI_ne (by decide), uI_ne (by decide), uI_ne (by decide), uI_ne (by decide), uI_ne (by decide), uI_ne (by decide), uI_ne (by decide), rdU, if_neg (fun z => h z.2), uIr_ne (by decide)]
  rfl
theorem pcS_J {a : Nat} : (pcS s).2.1 a j = if a = 12 then (if j < 16 then 0 else s.2.1 12 j) else s.2.1 a j := by
  show (uJr s 12 (fun j => if j < ln 12 then 0 else s.2.1 12 j)).2.1 a j = _
  rw [g_Jr, show ln 12 = 16 from ln_12]
theorem pcS_R : (pcS s).2.2 = s.2.2 := rfl
theorem pgX_pc : pgX s (pcS s) := ⟨fun a h1 h2 h3 h4 => pcS_o (by omega) (by omega) (by omega), fun j hj => pcS_7 hj, fun j _ => by rw [pcS_o (by decide) (by decide) (by decide)], fun a _ h _ _ => by
  funext j
  rw [pcS_J, if_neg h], fun _ _ _ _ => rfl⟩
end RPG

