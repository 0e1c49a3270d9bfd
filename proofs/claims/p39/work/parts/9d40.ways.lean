/-! WHERE LINES GO ON: the class's ways. -/
abbrev nx1 (a : Int32) (M : Nat) : Prop := a = -1 ∨ ∃ j, j < M ∧ a = nI j
/-- the lines of program r, as far as ways go -/
abbrev lwC (r N : Nat) (s : qS) : Prop := ∀ i, i < N → (∃ k, k < 19 ∧ s.1 (r + 7) i = nI k) ∧ nx1 (s.1 (r + 17) i) N ∧ nx1 (s.1 (r + 18) i) i ∧ nx1 (s.1 (r + 20) i) N ∧ nx1 (s.1 (r + 21) i) N
section LWC
variable {en : pN} {d d' k i n N j r : Nat} {s s' : qS} {nx pa kd : fI}
theorem lw_paC (h : lwC r N s) (hN : N ≤ 100) : ∀ i, i < N → s.1 (r + 18) i < 0 ∨ ∃ p, p < i ∧ s.1 (r + 18) i = nI p := fun i hi => by
  rcases (h i hi).2.2.1 with h1 | ⟨p, h1, h2⟩
  · left; rw [h1]; decide
  · exact Or.inr ⟨p, h1, h2⟩
theorem bhR_stepC (h : lwC r N s) (hN : N ≤ 100) (hi : i < N) : bhR s r i = if s.1 (r + 17) i < 0 then (if s.1 (r + 18) i < 0 then s.1 (r + 18) i else if s.1 (r + 7) (clp (s.1 (r + 18) i)) = 18 then s.1 (r + 18) i else bhR s r (clp (s.1 (r + 18) i))) else s.1 (r + 17) i := by
  show bhS _ _ _ (i + 1) i = _
  unfold bhS
  by_cases q : s.1 (r + 17) i < 0
  · rw [if_pos q, if_pos q]
    by_cases q2 : s.1 (r + 18) i < 0
    · rw [if_pos q2, if_pos q2]
    · rw [if_neg q2, if_neg q2]
      obtain ⟨p, p1, p2⟩ := (lw_paC h hN i hi).resolve_left q2
      rw [p2, n_clp (by omega)]
      by_cases q3 : s.1 (r + 7) p = 18
      · rw [if_pos q3, if_pos q3]
      · rw [if_neg q3, if_neg q3]
        exact bhS_eq (lw_paC h hN) hN p i (by omega) (by omega)
  · rw [if_neg q, if_neg q]
/-- the class's search for what is behind -/
theorem x_behindLC (hr : r = 11 ∨ r = 36) (h : lwC r N s) (hN : N ≤ 100) : ∀ (k w i : Nat), w + k = 100 → i < N → L_X5_behind_4 en d r (nI i) (nI w) s = some (some (.int (bhS (s.1 (r + 17)) (s.1 (r + 18)) (s.1 (r + 7)) k i)), s) := by
  have lr : lc r = 5 := by rcases hr with rfl | rfl <;> rfl
  intro k
  induction k with
  | zero =>
    intro w i hw hi
    refine le_X5_behind_4 en _ _ _ _ _ _ ?_
    rw [gd_true lr, if_pos (by rw [n_le (by decide) (by omega)]; omega)]
    rfl
  | succ k ih =>
    intro w i hw hi
    refine le_X5_behind_4 en _ _ _ _ _ _ ?_
    rw [gd_true lr, if_neg (by rw [n_le (by decide) (by omega)]; omega), gd_in (by omega) (by decide), n_cl (by omega)]
    unfold bhS
    by_cases q : s.1 (r + 17) i < 0
    · rw [if_pos q, if_pos q, nm_eq]
      by_cases q2 : s.1 (r + 18) i < 0
      · rw [if_pos q2, if_pos q2]
      · obtain ⟨p, p1, p2⟩ := (lw_paC h hN i hi).resolve_left q2
        rw [if_neg q2, if_neg q2, p2, gd_in (by omega) (by decide), n_cl (by omega), n_clp (by omega)]
        by_cases q3 : s.1 (r + 7) p = 18
        · rw [if_neg (not_not_intro q3), if_pos q3]
        · rw [if_pos q3, if_neg q3, show nI w + (1 : Int32) = nI (w + 1) from n_ar]
          exact ih (w + 1) p (by omega) (by omega)
    · rw [if_neg q, if_neg q]
theorem x_behindC (hr : r = 11 ∨ r = 36) (h : lwC r N s) (hN : N ≤ 100) (hi : i < N) : qev en (d + 1) 102 [.ref r, .int (nI i)] s = some (some (.int (bhR s r i)), s) := by
  have lr : lc r = 5 := by rcases hr with rfl | rfl <;> rfl
  refine le_X5_behind en _ _ _ _ _ ?_
  rw [gd_true lr]
  have e := x_behindLC (en := en) (d := d) hr h hN 100 0 i rfl hi
  rw [bhS_eq (lw_paC h hN) hN i 100 hi (by omega)] at e
  exact e
theorem lwC_fr (h : lwC r N s) (h1 : ∀ a, a = 7 ∨ a = 17 ∨ a = 18 ∨ a = 20 ∨ a = 21 → s'.1 (r + a) = s.1 (r + a)) : lwC r N s' := by
  unfold lwC
  rw [h1 7 (by omega), h1 17 (by omega), h1 18 (by omega), h1 20 (by omega), h1 21 (by omega)]
  exact h
/-- the class's ways -/
theorem x_layLC (hr : r = 11 ∨ r = 36) (hN : N ≤ 100) : ∀ (z i : Nat) (s : qS), i + z = N → lwC r N s → s.1 r 12 = nI N → ∃ s', L_X5_layWays_2 en (d + 1) r (nI i) s = some (none, s') ∧ (∀ a, a ≠ r + 22 → a ≠ r + 23 → s'.1 a = s.1 a) ∧ s'.2 = s.2 ∧ (∀ j, j < i → s'.1 (r + 22) j = s.1 (r + 22) j ∧ s'.1 (r + 23) j = s.1 (r + 23) j) ∧ ∀ j, i ≤ j → j < N → s'.1 (r + 22) j = itV s r j ∧ s'.1 (r + 23) j = elV s r j := by
  have lr : lc r = 5 := by rcases hr with rfl | rfl <;> rfl
  have l22 : lc (r + 22) = 20 ∧ ln (r + 22) = 100 := by rcases hr with rfl | rfl <;> exact ⟨rfl, rfl⟩
  have l23 : lc (r + 23) = 20 ∧ ln (r + 23) = 100 := by rcases hr with rfl | rfl <;> exact ⟨rfl, rfl⟩
  intro z
  induction z with
  | zero =>
    intro i s hi h h12
    refine ⟨s, le_X5_layWays_2 en _ _ _ _ _ ?_, fun _ _ _ => rfl, rfl, fun _ _ => ⟨rfl, rfl⟩, fun j h1 h2 => absurd h2 (by omega)⟩
    rw [gd_true lr, h12, if_pos (by rw [n_LE (by omega) (by omega)]; omega)]
  | succ z ih =>
    intro i s hi h h12
    have hi' : i < N := by omega
    let s1 : qS := uI s (r + 22) i (itV s r i)
    let s2 : qS := uI s1 (r + 23) i (elV s r i)
    have f2 : ∀ a, a ≠ r + 22 → a ≠ r + 23 → s2.1 a = s.1 a := fun a h1 h2 => (uI_ne h2).trans (uI_ne h1)
    have e21 : s1.1 (r + 21) = s.1 (r + 21) := uI_ne (by omega)
    obtain ⟨s', a1, a2, a3, a4, a5⟩ := ih (i + 1) s2 (by omega) (lwC_fr h (fun a ha => f2 _ (by omega) (by omega))) (by rw [f2 r (by omega) (by omega)]; exact h12)
    have b22 : s2.1 (r + 22) i = itV s r i := by show (uI s1 (r + 23) i _).1 (r + 22) i = _; rw [uI_ne (by omega), rdW]
    have b23 : s2.1 (r + 23) i = elV s r i := rdW
    have ebh : ∀ j, bhR s2 r j = bhR s r j := fun j => by
      show bhS (s2.1 (r + 17)) (s2.1 (r + 18)) (s2.1 (r + 7)) (j + 1) j = bhS (s.1 (r + 17)) (s.1 (r + 18)) (s.1 (r + 7)) (j + 1) j
      rw [f2 (r + 17) (by omega) (by omega), f2 (r + 18) (by omega) (by omega), f2 (r + 7) (by omega) (by omega)]
    refine ⟨s', le_X5_layWays_2 en _ _ _ _ _ ?_, fun a h1 h2 => (a2 a h1 h2).trans (f2 a h1 h2), a3, fun j hj => ⟨?_, ?_⟩, fun j h1 h2 => ?_⟩
    · have hE : L_X5_layWays_76 en (d + 1) r (nI i) (bhR s r i) (r + 22) (nI i) (itV s r i) s = some (none, s') := by
        have g110 : L_X5_layWays_110 en (d + 1) r (nI i) (r + 23) (nI i) (elV s r i) s1 = some (none, s') := by
          refine le_X5_layWays_110 en _ _ _ _ _ _ _ _ ?_
          rw [gd_true lr, gd_true l23.1, l23.2, gd_in (by omega) (by decide), n_cl (by omega), nm_eq, show nI i + (1 : Int32) = nI (i + 1) from n_ar]
          exact a1
        refine le_X5_layWays_76 en _ _ _ _ _ _ _ _ _ ?_
        rw [gd_true lr, gd_true l22.1, l22.2, gd_in (by omega) (by decide), n_cl (by omega), nm_eq, gd_in (by omega) (by decide)]
        show (if s1.1 (r + 21) i < (0 : Int32) then L_X5_layWays_110 en (d + 1) r (nI i) (r + 23) (nI i) (bhR s r i) s1 else L_X5_layWays_110 en (d + 1) r (nI i) (r + 23) (nI i) (s1.1 (r + 21) i) s1) = _
        rw [e21]
        by_cases q : s.1 (r + 21) i < 0
        · have e : elV s r i = bhR s r i := if_pos q
          rw [e] at g110
          rw [if_pos q]; exact g110
        · have e : elV s r i = s.1 (r + 21) i := if_neg q
          rw [e] at g110
          rw [if_neg q]; exact g110
      have h34 : L_X5_layWays_34 en (d + 1) r (nI i) (bhR s r i) (if s.1 (r + 7) i = 18 then 1 else 0) s = some (none, s') := by
        refine le_X5_layWays_34 en _ _ _ _ _ _ _ ?_
        rw [gd_true lr, gd_in (by omega) (by decide), n_cl (by omega)]
        by_cases q : s.1 (r + 20) i < 0
        · rw [if_pos q]
          by_cases q2 : s.1 (r + 7) i = 18
          · have e : itV s r i = nI i := by show (if _ then _ else _) = _; rw [if_pos q, if_pos q2]
            rw [e] at hE
            rw [if_pos q2, if_neg (by decide)]; exact hE
          · have e : itV s r i = bhR s r i := by show (if _ then _ else _) = _; rw [if_pos q, if_neg q2]
            rw [e] at hE
            rw [if_neg q2, if_pos rfl]; exact hE
        · have e : itV s r i = s.1 (r + 20) i := if_neg q
          rw [e] at hE
          rw [if_neg q]; exact hE
      rw [gd_true lr, h12, if_neg (by rw [n_LE (by omega) (by omega)]; omega), x_behindC hr h hN hi', bI_some, gd_in (by omega) (by decide), n_cl (by omega)]
      by_cases q2 : s.1 (r + 7) i = 18
      · rw [if_neg (not_not_intro q2)]
        rw [if_pos q2] at h34; exact h34
      · rw [if_pos q2]
        rw [if_neg q2] at h34; exact h34
    · rw [(a4 j (by omega)).1]
      show (uI s1 (r + 23) i _).1 (r + 22) j = _
      rw [uI_ne (by omega), rdU, if_neg (by omega)]
    · rw [(a4 j (by omega)).2]
      show (uI s1 (r + 23) i _).1 (r + 23) j = _
      rw [rdU, if_neg (by omega), uI_ne (by omega)]
    · by_cases q : j = i
      · rw [q, (a4 i (by omega)).1, (a4 i (by omega)).2]
        exact ⟨b22, b23⟩
      · obtain ⟨c1, c2⟩ := a5 j (by omega) h2
        rw [c1, c2]
        show (if s2.1 (r + 20) j < 0 then (if s2.1 (r + 7) j = 18 then nI j else bhR s2 r j) else s2.1 (r + 20) j) = _ ∧ (if s2.1 (r + 21) j < 0 then bhR s2 r j else s2.1 (r + 21) j) = _
        rw [ebh, f2 (r + 20) (by omega) (by omega), f2 (r + 21) (by omega) (by omega), f2 (r + 7) (by omega) (by omega)]
        exact ⟨rfl, rfl⟩
theorem x_layWaysC (hr : r = 11 ∨ r = 36) (hN : N ≤ 100) (h : lwC r N s) (h12 : s.1 r 12 = nI N) : ∃ s', qev en (d + 2) 101 [.ref r] s = some (none, s') ∧ (∀ a, a ≠ r + 22 → a ≠ r + 23 → s'.1 a = s.1 a) ∧ s'.2 = s.2 ∧ ∀ j, j < N → s'.1 (r + 22) j = itV s r j ∧ s'.1 (r + 23) j = elV s r j := by
  have lr : lc r = 5 := by rcases hr with rfl | rfl <;> rfl
  obtain ⟨s', a1, a2, a3, -, a5⟩ := x_layLC (en := en) (d := d) hr hN N 0 s (Nat.zero_add N) h h12
  refine ⟨s', le_X5_layWays en _ _ _ _ ?_, a2, a3, fun j hj => a5 j (Nat.zero_le j) hj⟩
  rw [gd_true lr]
  exact a1
end LWC
