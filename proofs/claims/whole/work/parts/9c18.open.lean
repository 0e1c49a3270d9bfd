/-! THE READER: how reading begins, on both sides. -/
/-- the cells of the class's tokens -/
def sT (a : Nat) : Prop := 1 ≤ a ∧ a ≤ 6
set_option maxRecDepth 100000 in
theorem frC_T : frC sT := by
  have h := frC_of (p := fun a => decide (1 ≤ a ∧ a ≤ 6)) (by decide +kernel) (by decide +kernel)
  simp only [decide_eq_true_eq] at h
  exact h
/-- what the beginning changes of the class -/
abbrev oxF (q : Nat) (s s' : qS) : Prop := (∀ a, a ≠ 65 → a ≠ q → ¬ sT a → s'.1 a = s.1 a) ∧ (∀ j, j ≠ 3 → s'.1 q j = s.1 q j) ∧ (∀ j, j ≠ 8 → j ≠ 11 → j ≠ 12 → j ≠ 13 → s'.1 65 j = s.1 65 j) ∧ (∀ a, ¬ sT a → s'.2.1 a = s.2.1 a) ∧ ∀ a k, ¬ sT a → ¬ (a = 65 ∧ k = 7) → s'.2.2 a k = s.2.2 a k
section OPN
variable {en : pN} {d d' n q : Nat} {lw : Bool} {s t : qS} {B : Nat → Nat}
theorem x_cutF (hT : TX s n B) (hz : frS sT s) : ∃ τ : qS, qev en (d + 7) 166 [.ref 1] s = some (none, τ) ∧ TX τ n B ∧ TC τ (cutL (s.2.1 3) B n (n + 1) 0) ∧ TA τ (cutL (s.2.1 3) B n (n + 1) 0) 0 ∧ τ.2.1 3 = s.2.1 3 ∧ frK sT s τ ∧ frS sT τ := by
  obtain ⟨τ, h1, h2, h3, h4, h5⟩ := c_cut (en := en) (d := d) hT
  obtain ⟨⟨g1, g2⟩, -⟩ := fr_ev frC_T (d + 7) 166 [.ref 1] s τ none h1 (fun v hv => by
    rw [List.mem_singleton.mp hv]
    show sT 1
    exact ⟨by decide, by decide⟩) hz
  exact ⟨τ, h1, h2, h3, h4, h5, g2, g1⟩
theorem tkN_0 : tkN B n 0 = (skp B (n - 0) false 0, aTok B n (skp B (n - 0) false 0)) := by
  unfold tkN aL
  rfl
/-- reading begins -/
theorem begin_al (hq : q = 7 ∨ q = 61) (hT : TX s n B) (hM : MX t n B) (hz : frS sT s) (hk : ∀ j, j < 33 → s.2.1 3 j = Int64.ofNat (KN.getD j 0)) : ∃ s' t', qev en (d + 8) 113 [.ref 65, .ref q, .int (bt lw)] s = some (none, s') ∧ qev en (d' + 4) 250 [.ref 151] t = some (none, t') ∧ (rdL s' t' B n 0 ∨ rdD s' t') ∧ (TX s' n B ∧ MX t' n B) ∧ ((∀ j, j < 33 → s'.2.1 3 j = Int64.ofNat (KN.getD j 0)) ∧ s'.2.1 3 = s.2.1 3) ∧ frS sT s' ∧ (s'.2.2 65 7 = q + 1 ∧ s'.1 q 3 = 0 ∧ s'.1 65 8 = bt lw ∧ s'.1 65 11 = 0 ∧ s'.1 65 12 = -2 ∧ s'.1 65 13 = 0) ∧ oxF q s s' ∧ mvF t t' := by
  have lq : lc q = 4 := by rcases hq with rfl | rfl <;> rfl
  have q1 : q ≠ 65 ∧ ¬ sT q := by
    rcases hq with rfl | rfl
    · exact ⟨by decide, fun h => absurd h.2 (by decide)⟩
    · exact ⟨by decide, fun h => absurd h.2 (by decide)⟩
  have nT : ∀ a, sT a → a ≠ 65 ∧ a ≠ q := fun a h => ⟨fun z => absurd h.2 (by omega), fun z => q1.2 (z ▸ h)⟩
  let sA : qS := uI (uI (uI (uI (uI (uR s 65 7 (q + 1)) q 3 0) 65 8 (bt lw)) 65 11 0) 65 12 (-2)) 65 13 0
  have oA : ∀ a, a ≠ 65 → a ≠ q → sA.1 a = s.1 a := fun a h1 h2 => by
    show (uI _ 65 13 0).1 a = _
    rw [uI_ne h1, uI_ne h1, uI_ne h1, uI_ne h1, uI_ne h2]
    rfl
  have TA0 : TX sA n B := by
    obtain ⟨h1, h2, h3, h4⟩ := hT
    have n1 := nT 1 ⟨by decide, by decide⟩
    have n2 := nT 2 ⟨by decide, by decide⟩
    exact ⟨by rw [oA 1 n1.1 n1.2]; exact h1, h2, h3, fun i hi => by rw [oA 2 n2.1 n2.2]; exact h4 i hi⟩
  have zA : frS sT sA := fun a k ha h => by
    have e : sA.2.2 a k = s.2.2 a k := by
      show (if a = 65 ∧ k = 7 then q + 1 else s.2.2 a k) = _
      rw [if_neg (fun z => (nT a ha).1 z.1)]
    rw [e] at h ⊢
    exact hz a k ha h
  obtain ⟨s', e1, e2, e3, e4, e5, e6, e7⟩ := x_cutF (en := en) (d := d) TA0 zA
  have n65 : ¬ sT 65 := fun h => absurd h.2 (by decide)
  have r65 : ∀ j, s'.1 65 j = sA.1 65 j := fun j => by rw [(e6 65 n65).1]
  have rq : ∀ j, s'.1 q j = sA.1 q j := fun j => by rw [(e6 q q1.2).1]
  have kK : ∀ j, j < 33 → s'.2.1 3 j = Int64.ofNat (KN.getD j 0) := fun j hj => by rw [e5]; exact hk j hj
  have a3 : sA.1 q 3 = 0 := by
    show (uI _ 65 13 0).1 q 3 = 0
    rw [uI_ne q1.1, uI_ne q1.1, uI_ne q1.1, uI_ne q1.1, rdW]
  have a65 : ∀ j, j ≠ 8 → j ≠ 11 → j ≠ 12 → j ≠ 13 → sA.1 65 j = s.1 65 j := fun j h1 h2 h3 h4 => by
    show (uI _ 65 13 0).1 65 j = _
    rw [rdU, if_neg (fun z => h4 z.2), rdU, if_neg (fun z => h3 z.2), rdU, if_neg (fun z => h2 z.2), rdU, if_neg (fun z => h1 z.2), uI_ne (Ne.symm q1.1)]
    rfl
  have hX : qev en (d + 8) 113 [.ref 65, .ref q, .int (bt lw)] s = some (none, s') := by
    refine le_X6_open en _ _ _ _ _ ?_
    have g2 : (uR s 65 7 (q + 1)).2.2 65 7 ≠ 0 ∧ lc ((uR s 65 7 (q + 1)).2.2 65 7 - 1) = 4 := by
      show (if 65 = 65 ∧ 7 = 7 then q + 1 else s.2.2 65 7) ≠ 0 ∧ lc ((if 65 = 65 ∧ 7 = 7 then q + 1 else s.2.2 65 7) - 1) = 4
      rw [if_pos ⟨rfl, rfl⟩]
      exact ⟨by omega, lq⟩
    have g3 : (uR s 65 7 (q + 1)).2.2 65 7 - 1 = q := by
      show (if 65 = 65 ∧ 7 = 7 then q + 1 else s.2.2 65 7) - 1 = q
      rw [if_pos ⟨rfl, rfl⟩]
      rfl
    rw [gd_true lq, nm_eq, gd_true g2, g3, nm_eq, nm_eq, gd_true bt_B, nm_eq, nm_eq, nm_eq, nm_eq]
    show bV (qev en (d + 7) 166 [.ref 1] sA) _ = _
    rw [e1, bV_some]
  -- the model
  let tA : qS := uI (uI (uI t 151 2 0) 151 7 0) 151 8 (-2)
  have MA : MX tA n B := by
    obtain ⟨h1, h2, h3, h4⟩ := hM
    refine ⟨?_, h2, h3, fun i hi => ?_⟩
    · show (uI _ 151 8 (-2)).1 151 1 = _
      rw [rdU, if_neg (by decide), rdU, if_neg (by decide), rdU, if_neg (by decide)]
      exact h1
    · show (uI _ 151 8 (-2)).1 152 i = _
      rw [uI_ne (by decide), uI_ne (by decide), uI_ne (by decide)]
      exact h4 i hi
  have t7 : tA.1 151 7 = 0 := by
    show (uI _ 151 8 (-2)).1 151 7 = _
    rw [rdU, if_neg (by decide), rdW]
  have t2 : tA.1 151 2 = nI 0 := by
    show (uI _ 151 8 (-2)).1 151 2 = _
    rw [rdU, if_neg (by decide), rdU, if_neg (by decide), rdW]
    rfl
  have f1 := m_next (en := en) (d := d') (q := 0) MA t7 t2 (Nat.zero_le n)
  obtain ⟨t', f2, f3⟩ := m_nextT (en := en) (d := d') (q := 0) MA t7 t2 (Nat.zero_le n)
  have et : t' = nxS tA B n 0 := by
    rw [f1] at f2
    injection f2 with f2
    injection f2 with _ f2
    exact f2.symm
  have wM : mvF t t' := by
    rw [et]
    exact (((mvF_uI (by decide)).tr' (mvF_uI (by decide))).tr' (mvF_uI (by decide))).tr' mvF_nx
  have MX' : MX t' n B := by
    rw [et]
    exact MA.mv mvF_nx
  have hM2 : qev en (d' + 4) 250 [.ref 151] t = some (none, t') := by
    refine le_X12_beginReading en _ _ _ ?_
    rw [nm_eq, nm_eq, nm_eq, show qev en (d' + 3) 249 [.ref 151] (uI (uI (uI t 151 2 0) 151 7 0) 151 8 (-2)) = _ from f2, bV_some]
  obtain ⟨g1, g2⟩ := mt_of MX' hM.2.1 (tk_pos (B := B) (n := n)) (by rw [tkN_0]; exact f3)
  have n12 : s'.1 65 11 = 0 := by
    rw [r65]
    show (uI _ 65 13 0).1 65 11 = 0
    rw [rdU, if_neg (by decide), rdU, if_neg (by decide), rdW]
  have n13 : s'.1 65 12 = -2 := by
    rw [r65]
    show (uI _ 65 13 0).1 65 12 = _
    rw [rdU, if_neg (by decide), rdW]
  have hcL : cL s' B n 0 := by
    refine ⟨?_, ?_, kK, ⟨n12, n13⟩, hM.2.1⟩
    · rw [e5]; exact e3
    · rw [e5]; exact e4
  refine ⟨s', t', hX, hM2, ?_, ⟨e2, MX'⟩, ⟨kK, e5⟩, e7, ⟨?_, by rw [rq]; exact a3, ?_, n12, ?_, ?_⟩, ⟨fun a h1 h2 h3 => (e6 a h3).1.trans (oA a h1 h2), fun j hj => ?_, fun j h1 h2 h3 h4 => (r65 j).trans (a65 j h1 h2 h3 h4), fun a h => (e6 a h).2.1, fun a k h1 h2 => ?_⟩, wM⟩
  · by_cases k1 : tkK B n 0 = 1
    · right
      obtain ⟨-, c1, c2, -⟩ := cL_at hcL
      exact ⟨1, (tkN B n 0).1, Or.inr ⟨by rw [c1, k1]; rfl, n12, c2, rfl⟩, g2 k1⟩
    · exact Or.inl ⟨hcL, g1 k1⟩
  · rw [(e6 65 n65).2.2]
    show (if 65 = 65 ∧ 7 = 7 then q + 1 else s.2.2 65 7) = q + 1
    rw [if_pos ⟨rfl, rfl⟩]
  · rw [r65]
    show (uI _ 65 13 0).1 65 8 = _
    rw [rdU, if_neg (by decide), rdU, if_neg (by decide), rdU, if_neg (by decide), rdW]
  · rw [r65]
    show (uI _ 65 13 0).1 65 12 = _
    rw [rdU, if_neg (by decide), rdW]
  · rw [r65]
    exact rdW
  · rw [rq]
    show (uI _ 65 13 0).1 q j = _
    rw [uI_ne q1.1, uI_ne q1.1, uI_ne q1.1, uI_ne q1.1, rdU, if_neg (fun z => hj z.2)]
    rfl
  · rw [(e6 a h1).2.2]
    show (if a = 65 ∧ k = 7 then q + 1 else s.2.2 a k) = _
    rw [if_neg h2]
end OPN
