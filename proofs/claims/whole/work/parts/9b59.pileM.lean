/-! THE READER, the model's side: the pile of signs that wait. -/
/-- how strongly a sign binds -/
def rkM (K : Nat) : Nat := if K = 14 then 1 else if K = 13 then 2 else if 7 ≤ K ∧ K ≤ 12 then 3 else if K = 5 ∨ K = 6 then 4 else if K = 4 then 5 else if K = 22 then 0 else 6
/-- how many of k stay where all that bind as strongly as r are settled -/
def stC (pl : Nat → Nat) (r : Nat) : Nat → Nat
  | 0 => 0
  | k + 1 => if rkM (pl k) < r ∨ pl k = 22 then k + 1 else stC pl r k
/-- how many of k stay where prefixes are ended -/
def epC (pl : Nat → Nat) : Nat → Nat
  | 0 => 0
  | k + 1 => if pl k = 2 ∨ pl k = 3 then epC pl k else k + 1
/-- what putting nodes from c on changes -/
abbrev emF (c : Nat) (s s' : qS) : Prop := (∀ a, a ≠ 151 → a ≠ 161 → a ≠ 162 → s'.1 a = s.1 a) ∧ (∀ j, j ≠ 25 → j ≠ 31 → s'.1 151 j = s.1 151 j) ∧ (∀ j, j < c → s'.1 161 j = s.1 161 j ∧ s'.1 162 j = s.1 162 j) ∧ s'.2 = s.2
section PIL
variable {en : pN} {d c k r K F p : Nat} {s s' s'' : qS} {pl : Nat → Nat} {v : Int32}
theorem emF.rf : emF c s s := ⟨fun _ _ _ _ => rfl, fun _ _ _ => rfl, fun _ _ => ⟨rfl, rfl⟩, rfl⟩
theorem emF.tr' {c' : Nat} (h : emF c s s') (g : emF c' s' s'') (hc : c ≤ c') : emF c s s'' := ⟨fun a x y z => (g.1 a x y z).trans (h.1 a x y z), fun j x y => (g.2.1 j x y).trans (h.2.1 j x y), fun j hj => ⟨(g.2.2.1 j (by omega)).1.trans (h.2.2.1 j hj).1, (g.2.2.1 j (by omega)).2.trans (h.2.2.1 j hj).2⟩, g.2.2.2.trans h.2.2.2⟩
theorem rkM_le : rkM K ≤ 6 := by
  unfold rkM
  repeat' split
  all_goals omega
theorem m_rankOf (hK : K < 30) : qev en (d + 1) 264 [.int (nI K)] s = some (some (.int (nI (rkM K))), s) := by
  have f36 : ¬ K = 14 → ¬ K = 13 → ¬ (7 ≤ K ∧ K ≤ 12) → L_X12_rankOf_36 en d (nI K) s = some (some (.int (nI (rkM K))), s) := fun h1 h2 h3 => by
    refine le_X12_rankOf_36 en _ _ _ _ ?_
    have e0 : rkM K = if K = 5 ∨ K = 6 then 4 else if K = 4 then 5 else if K = 22 then 0 else 6 := by
      unfold rkM
      rw [if_neg h1, if_neg h2, if_neg h3]
    by_cases q5 : K = 5
    · rw [if_pos (by rw [q5]; rfl), e0, if_pos (Or.inl q5)]; rfl
    rw [if_neg (by rw [n_eq (by decide) (by omega)]; exact q5)]
    by_cases q6 : K = 6
    · rw [if_neg (by rw [q6]; exact not_not_intro rfl), e0, if_pos (Or.inr q6)]; rfl
    rw [if_pos (by rw [n_eq (by decide) (by omega)]; exact q6)]
    have e1 : rkM K = if K = 4 then 5 else if K = 22 then 0 else 6 := by rw [e0, if_neg (fun z => z.elim q5 q6)]
    by_cases q4 : K = 4
    · rw [if_neg (by rw [q4]; exact not_not_intro rfl), e1, if_pos q4]; rfl
    rw [if_pos (by rw [n_eq (by decide) (by omega)]; exact q4)]
    have e2 : rkM K = if K = 22 then 0 else 6 := by rw [e1, if_neg q4]
    by_cases q22 : K = 22
    · rw [if_neg (by rw [q22]; exact not_not_intro rfl), e2, if_pos q22]; rfl
    · rw [if_pos (by rw [n_eq (by decide) (by omega)]; exact q22), e2, if_neg q22]; rfl
  refine le_X12_rankOf en _ _ _ _ ?_
  by_cases h1 : K = 14
  · rw [if_neg (by rw [h1]; exact not_not_intro rfl)]
    unfold rkM
    rw [if_pos h1]; rfl
  rw [if_pos (by rw [n_eq (by decide) (by omega)]; exact h1)]
  by_cases h2 : K = 13
  · rw [if_neg (by rw [h2]; exact not_not_intro rfl)]
    unfold rkM
    rw [if_neg h1, if_pos h2]; rfl
  rw [if_pos (by rw [n_eq (by decide) (by omega)]; exact h2)]
  by_cases h3 : K < 7
  · rw [if_pos (by rw [n_gt (by decide) (by omega)]; exact h3)]
    exact f36 h1 h2 (by omega)
  rw [if_neg (by rw [n_gt (by decide) (by omega)]; exact h3)]
  by_cases h4 : 12 < K
  · rw [if_pos (by rw [n_lt (by decide) (by omega)]; exact h4)]
    exact f36 h1 h2 (by omega)
  rw [if_neg (by rw [n_lt (by decide) (by omega)]; exact h4)]
  unfold rkM
  rw [if_neg h1, if_neg h2, if_pos ⟨by omega, by omega⟩]; rfl
/-- a node put -/
theorem m_emit (h7 : s.1 151 7 = 0) (hc : s.1 151 25 = nI c) (hc9 : c < 900) {x : Int32} : ∃ s', qev en (d + 2) 262 [.ref 151, .int x, .int v] s = some (none, s') ∧ emF c s s' ∧ s'.1 161 c = x ∧ s'.1 162 c = v ∧ s'.1 151 25 = nI (c + 1) ∧ s'.1 151 31 = s.1 151 31 := by
  refine ⟨uI (uI (uI s 161 c x) 162 c v) 151 25 (nI (c + 1)), le_X12_emit en _ _ _ _ _ ?_, ⟨fun a h1 h2 h3 => by rw [uI_ne h1, uI_ne h3, uI_ne h2], fun j h1 h2 => ?_, fun j hj => ⟨?_, ?_⟩, rfl⟩, ?_, ?_, ?_, ?_⟩
  · rw [m_goodL h7, bI_some, if_neg (by decide), hc, gd_in (by omega) (by decide), n_cl (by omega), nm_eq, uI_ne (by decide), hc, gd_in (by omega) (by decide), n_cl (by omega), nm_eq, nm_eq, uI_ne (by decide), uI_ne (by decide), hc, show nI c + (1 : Int32) = nI (c + 1) from n_ar]
  · rw [rdU, if_neg (fun z => h1 z.2), uI_ne (by decide), uI_ne (by decide)]
  · rw [uI_ne (by decide), uI_ne (by decide), rdU, if_neg (by omega)]
  · rw [uI_ne (by decide), rdU, if_neg (by omega), uI_ne (by decide)]
  · rw [uI_ne (by decide), uI_ne (by decide), rdU, if_pos ⟨rfl, rfl⟩]
  · rw [uI_ne (by decide), rdU, if_pos ⟨rfl, rfl⟩]
  · rw [rdU, if_pos ⟨rfl, rfl⟩]
  · rw [rdU, if_neg (by omega), uI_ne (by decide), uI_ne (by decide)]
theorem stC_le : ∀ k, stC pl r k ≤ k := by
  intro k
  induction k with
  | zero => exact Nat.le_refl _
  | succ k ih =>
    unfold stC
    split
    · exact Nat.le_refl _
    · omega
theorem epC_le : ∀ k, epC pl k ≤ k := by
  intro k
  induction k with
  | zero => exact Nat.le_refl _
  | succ k ih =>
    unfold epC
    split
    · omega
    · exact Nat.le_refl _
/-- one sign off the pile and put -/
theorem m_pop1 (h7 : s.1 151 7 = 0) (h25 : s.1 151 25 = nI c) (h31 : s.1 151 31 = nI (k + 1)) (hc : c < 900) {x : Int32} : ∃ s', qev en (d + 2) 262 [.ref 151, .int x, .int (0 : Int32)] (uI s 151 31 (nI k)) = some (none, s') ∧ emF c s s' ∧ s'.1 161 c = x ∧ s'.1 162 c = 0 ∧ s'.1 151 25 = nI (c + 1) ∧ s'.1 151 31 = nI k := by
  obtain ⟨s', e1, e2, e3, e4, e5, e6⟩ := m_emit (en := en) (d := d) (s := uI s 151 31 (nI k)) (c := c) (v := 0) (x := x) h7 h25 hc
  have e0 : emF c s (uI s 151 31 (nI k)) := ⟨fun a h1 _ _ => uI_ne h1, fun j _ h2 => by rw [rdU, if_neg (fun z => h2 z.2)], fun j _ => ⟨by rw [uI_ne (by decide)], by rw [uI_ne (by decide)]⟩, rfl⟩
  exact ⟨s', e1, e0.tr' e2 (Nat.le_refl _), e3, e4, e5, by rw [e6, rdU, if_pos ⟨rfl, rfl⟩]⟩
/-- all that bind as strongly as r are put, from the top down -/
theorem m_settle (hr : r ≤ 6) : ∀ (k c : Nat) (s : qS), k ≤ 2000 → s.1 151 7 = 0 → s.1 151 25 = nI c → s.1 151 31 = nI k → c + k ≤ 900 → (∀ j, j < k → s.1 163 j = nI (pl j) ∧ pl j < 30) → ∃ s', L_X12_settle_0 en (d + 2) (nI r) s = some (none, s') ∧ emF c s s' ∧ s'.1 151 31 = nI (stC pl r k) ∧ s'.1 151 25 = nI (c + (k - stC pl r k)) ∧ ∀ u, u < k - stC pl r k → s'.1 161 (c + u) = nI (pl (k - 1 - u)) ∧ s'.1 162 (c + u) = 0 := by
  intro k
  induction k with
  | zero =>
    intro c s hk h7 h25 h31 hc hp
    refine ⟨s, le_X12_settle_0 en _ _ _ _ ?_, emF.rf, h31, h25, fun u hu => absurd hu (by omega)⟩
    rw [h31, if_pos (by decide)]
  | succ k ih =>
    intro c s hk h7 h25 h31 hc hp
    obtain ⟨p1, p2⟩ := hp k (by omega)
    have hrk := @rkM_le (pl k)
    have est : stC pl r (k + 1) = if rkM (pl k) < r ∨ pl k = 22 then k + 1 else stC pl r k := rfl
    have pre : ∀ x, (if nI (rkM (pl k)) < nI r then some (none, s) else if nI (pl k) = (22 : Int32) then some (none, s) else nm (uI s 151 31 (nI k)) (fun s9 => bV (qev en (d + 2) 262 [.ref 151, .int (nI (pl k)), .int (0 : Int32)] s9) (fun s12 => L_X12_settle_0 en (d + 2) (nI r) s12))) = some x → L_X12_settle_0 en (d + 2) (nI r) s = some x := by
      intro x hx
      refine le_X12_settle_0 en _ _ _ _ ?_
      rw [h31, if_neg (by rw [n_ge (by decide) (by omega)]; omega), show nI (k + 1) - (1 : Int32) = nI k from n_sr (by omega), gd_in (by omega) (by decide), n_cl (by omega), p1, m_rankOf p2, bI_some, h31, show nI (k + 1) - (1 : Int32) = nI k from n_sr (by omega), gd_in (by omega) (by decide), n_cl (by omega), p1, nm_eq, show (uI s 151 31 (nI k)).1 151 31 = nI k from by rw [rdU, if_pos ⟨rfl, rfl⟩], gd_in (by omega) (by decide), n_cl (by omega), uI_ne (by decide), p1]
      rw [nm_eq] at hx
      exact hx
    by_cases q : rkM (pl k) < r ∨ pl k = 22
    · rw [if_pos q] at est
      refine ⟨s, pre _ ?_, emF.rf, by rw [est]; exact h31, by rw [est, h25]; congr 1; omega, fun u hu => absurd hu (by rw [est]; omega)⟩
      by_cases q1 : rkM (pl k) < r
      · rw [if_pos (by rw [n_LT (by omega) (by omega)]; exact q1)]
      · rw [if_neg (by rw [n_LT (by omega) (by omega)]; exact q1), if_pos (by rw [n_eq (by decide) (by omega)]; exact q.resolve_left q1)]
    · rw [if_neg q] at est
      obtain ⟨s1, e1, e2, e3, e4, e5, e6⟩ := m_pop1 (en := en) (d := d) (x := nI (pl k)) h7 h25 h31 (by omega)
      have hle := @stC_le r pl k
      obtain ⟨s', y1, y2, y3, y4, y5⟩ := ih (c + 1) s1 (by omega) (by rw [e2.2.1 7 (by decide) (by decide)]; exact h7) e5 e6 (by omega) (fun j hj => ⟨by rw [e2.1 163 (by decide) (by decide) (by decide)]; exact (hp j (by omega)).1, (hp j (by omega)).2⟩)
      refine ⟨s', pre _ ?_, e2.tr' y2 (by omega), by rw [est]; exact y3, by rw [est, y4]; congr 1; omega, fun u hu => ?_⟩
      · rw [if_neg (by rw [n_LT (by omega) (by omega)]; exact fun z => q (Or.inl z)), if_neg (by rw [n_eq (by decide) (by omega)]; exact fun z => q (Or.inr z)), nm_eq, e1, bV_some]
        exact y1
      · rw [est] at hu
        rcases u with _ | u
        · rw [Nat.add_zero, (y2.2.2.1 c (by omega)).1, (y2.2.2.1 c (by omega)).2, e3, e4]
          exact ⟨rfl, rfl⟩
        · have := y5 u (by omega)
          rw [show c + (u + 1) = c + 1 + u by omega, show k + 1 - 1 - (u + 1) = k - 1 - u by omega]
          exact this
end PIL
