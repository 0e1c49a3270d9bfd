/-! THE READER: prefixes ended; a node put. -/
section PFX
variable {en : pN} {d c k r K F p q m v : Nat} {s s' s'' : qS} {pl : Nat → Nat}
theorem m_prefixes : ∀ (k c v : Nat) (s : qS), k ≤ 2000 → s.1 151 7 = 0 → s.1 151 25 = nI c → s.1 151 31 = nI k → c + k ≤ 900 → (∀ j, j < k → s.1 163 j = nI (pl j) ∧ pl j < 30) → ∃ s', L_X12_endPrefixes_2 en (d + 2) (nI v) s = some (some (.int (nI (v + (k - epC pl k)))), s') ∧ emF c s s' ∧ s'.1 151 31 = nI (epC pl k) ∧ s'.1 151 25 = nI (c + (k - epC pl k)) ∧ ∀ u, u < k - epC pl k → s'.1 161 (c + u) = nI (pl (k - 1 - u)) ∧ s'.1 162 (c + u) = 0 := by
  intro k
  induction k with
  | zero =>
    intro c v s hk h7 h25 h31 hc hp
    refine ⟨s, le_X12_endPrefixes_2 en _ _ _ _ ?_, emF.rf, h31, h25, fun u hu => absurd hu (by omega)⟩
    rw [m_goodL h7, bI_some, if_neg (by decide), h31, if_pos (by decide)]
    rfl
  | succ k ih =>
    intro c v s hk h7 h25 h31 hc hp
    obtain ⟨p1, p2⟩ := hp k (by omega)
    have est : epC pl (k + 1) = if pl k = 2 ∨ pl k = 3 then epC pl k else k + 1 := rfl
    have pre : ∀ x, (if nI (pl k) = (2 : Int32) then L_X12_endPrefixes_46 en (d + 2) (nI v) s else if ¬ nI (pl k) = (3 : Int32) then some (some (.int (nI v)), s) else L_X12_endPrefixes_46 en (d + 2) (nI v) s) = some x → L_X12_endPrefixes_2 en (d + 2) (nI v) s = some x := by
      intro x hx
      refine le_X12_endPrefixes_2 en _ _ _ _ ?_
      rw [m_goodL h7, bI_some, if_neg (by decide), h31, if_neg (by rw [n_ge (by decide) (by omega)]; omega), show nI (k + 1) - (1 : Int32) = nI k from n_sr (by omega), gd_in (by omega) (by decide), n_cl (by omega), p1]
      exact hx
    by_cases q : pl k = 2 ∨ pl k = 3
    · rw [if_pos q] at est
      obtain ⟨s1, e1, e2, e3, e4, e5, e6⟩ := m_pop1 (en := en) (d := d) (x := nI (pl k)) h7 h25 h31 (by omega)
      have hle := @epC_le pl k
      obtain ⟨s', y1, y2, y3, y4, y5⟩ := ih (c + 1) (v + 1) s1 (by omega) (by rw [e2.2.1 7 (by decide) (by decide)]; exact h7) e5 e6 (by omega) (fun j hj => ⟨by rw [e2.1 163 (by decide) (by decide) (by decide)]; exact (hp j (by omega)).1, (hp j (by omega)).2⟩)
      have f46 : L_X12_endPrefixes_46 en (d + 2) (nI v) s = some (some (.int (nI (v + (k + 1 - epC pl (k + 1))))), s') := by
        refine le_X12_endPrefixes_46 en _ _ _ _ ?_
        rw [h31, show nI (k + 1) - (1 : Int32) = nI k from n_sr (by omega), nm_eq, show (uI s 151 31 (nI k)).1 151 31 = nI k from by rw [rdU, if_pos ⟨rfl, rfl⟩], gd_in (by omega) (by decide), n_cl (by omega), uI_ne (by decide), p1, e1, bV_some, show nI v + (1 : Int32) = nI (v + 1) from n_ar, y1, est, show v + 1 + (k - epC pl k) = v + (k + 1 - epC pl k) by omega]
      refine ⟨s', pre _ ?_, e2.tr' y2 (by omega), by rw [est]; exact y3, by rw [est, y4]; congr 1; omega, fun u hu => ?_⟩
      · by_cases q2 : pl k = 2
        · rw [if_pos (by rw [q2]; rfl)]; exact f46
        · rw [if_neg (by rw [n_eq (by decide) (by omega)]; exact q2), if_neg (by rw [q.resolve_left q2]; exact not_not_intro rfl)]; exact f46
      · rw [est] at hu
        rcases u with _ | u
        · rw [Nat.add_zero, (y2.2.2.1 c (by omega)).1, (y2.2.2.1 c (by omega)).2, e3, e4]
          exact ⟨rfl, rfl⟩
        · have := y5 u (by omega)
          rw [show c + (u + 1) = c + 1 + u by omega, show k + 1 - 1 - (u + 1) = k - 1 - u by omega]
          exact this
    · rw [if_neg q] at est
      refine ⟨s, pre _ ?_, emF.rf, by rw [est]; exact h31, by rw [est, h25]; congr 1; omega, fun u hu => absurd hu (by rw [est]; omega)⟩
      rw [if_neg (by rw [n_eq (by decide) (by omega)]; exact fun z => q (Or.inl z)), if_pos (by rw [n_eq (by decide) (by omega)]; exact fun z => q (Or.inr z)), est, Nat.sub_self]
      rfl
/-- what putting a node changes, on the class's side -/
abbrev ptF (q m : Nat) (s s' : qS) : Prop := (∀ a, a ≠ q → a ≠ q + 1 → a ≠ q + 2 → s'.1 a = s.1 a) ∧ (∀ j, j ≠ 3 → s'.1 q j = s.1 q j) ∧ (∀ j, j ≠ m → s'.1 (q + 1) j = s.1 (q + 1) j ∧ s'.1 (q + 2) j = s.1 (q + 2) j) ∧ s'.2 = s.2
theorem x_put4 (hq : q = 7 ∨ q = 61) (hm : s.1 q 3 = nI m) (hl : m < 400) {x y : Int32} : ∃ s', qev en (d + 2) 76 [.ref q, .int x, .int y] s = some (none, s') ∧ ptF q m s s' ∧ s'.1 (q + 1) m = x ∧ s'.1 (q + 2) m = y ∧ s'.1 q 3 = nI (m + 1) := by
  have hlc : lc q = 4 := by rcases hq with rfl | rfl <;> rfl
  have hl1 : ln (q + 1) = 500 ∨ ln (q + 1) = 400 := by
    rcases hq with rfl | rfl
    · exact Or.inl rfl
    · exact Or.inr rfl
  have hl2 : ln (q + 2) = ln (q + 1) := by rcases hq with rfl | rfl <;> rfl
  have i1 : p_inB (nI m) (ln (q + 1)) = true := n_in (by omega) (by omega)
  have i2 : p_inB (nI m) (ln (q + 2)) = true := n_in (by omega) (by omega)
  refine ⟨uI (uI (uI s (q + 1) m x) (q + 2) m y) q 3 (nI (m + 1)), le_X4_put en _ _ _ _ _ _ ?_, ⟨fun a h1 h2 h3 => by rw [uI_ne h1, uI_ne h3, uI_ne h2], fun j hj => ?_, fun j hj => ⟨?_, ?_⟩, rfl⟩, ?_, ?_, ?_⟩
  · have e77 : qev en (d + 1) 77 [.ref q, .int (nI m), .int x, .int y] s = some (none, uI (uI s (q + 1) m x) (q + 2) m y) := by
      refine le_X4_set en _ _ _ _ _ _ _ ?_
      rw [gd_true hlc, gd_true i1, n_cl (by omega), nm_eq, gd_true i2, nm_eq]
    have e0 : ¬ Int32.ofNat (ln (q + 1)) ≤ nI m := by
      show ¬ nI (ln (q + 1)) ≤ nI m
      rw [n_LE (by omega) (by omega)]; omega
    rw [gd_true hlc, hm, if_neg e0, e77, bV_some, nm_eq, uI_ne (by omega), uI_ne (by omega), hm, show nI m + (1 : Int32) = nI (m + 1) from n_ar]
  · rw [rdU, if_neg (fun z => hj z.2), uI_ne (by omega), uI_ne (by omega)]
  · rw [uI_ne (by omega), uI_ne (by omega), rdU, if_neg (fun z => hj z.2)]
  · rw [uI_ne (by omega), rdU, if_neg (fun z => hj z.2), uI_ne (by omega)]
  · rw [uI_ne (by omega), uI_ne (by omega), rdU, if_pos ⟨rfl, rfl⟩]
  · rw [uI_ne (by omega), rdU, if_pos ⟨rfl, rfl⟩]
  · rw [rdU, if_pos ⟨rfl, rfl⟩]
end PFX
