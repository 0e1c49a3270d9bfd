/-! THE READER, the model's side: an expression behind a fault. -/
section DDM
variable {en : pN} {d k r K F p : Nat} {s t t' : qS} {pl : Nat → Nat} {v1 v2 v3 v4 v5 : Int32}
/-- what is changed behind a fault: how high the pile is -/
abbrev ddF (s s' : qS) : Prop := (∀ a, a ≠ 151 → s'.1 a = s.1 a) ∧ (∀ j, j ≠ 31 → s'.1 151 j = s.1 151 j) ∧ s'.2 = s.2
theorem mtD_dd (h : mtD s F p) (g : ddF s t) : mtD t F p := ⟨by rw [g.2.1 7 (by decide)]; exact h.1, h.2.1, h.2.2.1, by rw [g.2.1 8 (by decide)]; exact h.2.2.2⟩
theorem m_emitD (h : mtD s F p) {x y : Int32} : qev en (d + 2) 262 [.ref 151, .int x, .int y] s = some (none, s) := by
  refine le_X12_emit en _ _ _ _ _ ?_
  rw [m_goodD h, bI_some, if_pos rfl]
theorem m_settleD (hr : r ≤ 6) : ∀ (k : Nat) (s : qS), k ≤ 2000 → mtD s F p → s.1 151 31 = nI k → (∀ j, j < k → s.1 163 j = nI (pl j) ∧ pl j < 30) → ∃ s', L_X12_settle_0 en (d + 2) (nI r) s = some (none, s') ∧ ddF s s' ∧ s'.1 151 31 = nI (stC pl r k) := by
  intro k
  induction k with
  | zero =>
    intro s hk hD h31 hp
    refine ⟨s, le_X12_settle_0 en _ _ _ _ ?_, ⟨fun _ _ => rfl, fun _ _ => rfl, rfl⟩, h31⟩
    rw [h31, if_pos (by decide)]
  | succ k ih =>
    intro s hk hD h31 hp
    obtain ⟨p1, p2⟩ := hp k (by omega)
    have hrk := @rkM_le (pl k)
    have est : stC pl r (k + 1) = if rkM (pl k) < r ∨ pl k = 22 then k + 1 else stC pl r k := rfl
    have pre : ∀ x, (if nI (rkM (pl k)) < nI r then some (none, s) else if nI (pl k) = (22 : Int32) then some (none, s) else bV (qev en (d + 2) 262 [.ref 151, .int (nI (pl k)), .int (0 : Int32)] (uI s 151 31 (nI k))) (fun s12 => L_X12_settle_0 en (d + 2) (nI r) s12)) = some x → L_X12_settle_0 en (d + 2) (nI r) s = some x := by
      intro x hx
      refine le_X12_settle_0 en _ _ _ _ ?_
      rw [h31, if_neg (by rw [n_ge (by decide) (by omega)]; omega), show nI (k + 1) - (1 : Int32) = nI k from n_sr (by omega), gd_in (by omega) (by decide), n_cl (by omega), p1, m_rankOf p2, bI_some, h31, show nI (k + 1) - (1 : Int32) = nI k from n_sr (by omega), gd_in (by omega) (by decide), n_cl (by omega), p1, nm_eq, show (uI s 151 31 (nI k)).1 151 31 = nI k from by rw [rdU, if_pos ⟨rfl, rfl⟩], gd_in (by omega) (by decide), n_cl (by omega), uI_ne (by decide), p1]
      exact hx
    by_cases q : rkM (pl k) < r ∨ pl k = 22
    · rw [if_pos q] at est
      refine ⟨s, pre _ ?_, ⟨fun _ _ => rfl, fun _ _ => rfl, rfl⟩, by rw [est]; exact h31⟩
      by_cases q1 : rkM (pl k) < r
      · rw [if_pos (by rw [n_LT (by omega) (by omega)]; exact q1)]
      · rw [if_neg (by rw [n_LT (by omega) (by omega)]; exact q1), if_pos (by rw [n_eq (by decide) (by omega)]; exact q.resolve_left q1)]
    · rw [if_neg q] at est
      have g1 : ddF s (uI s 151 31 (nI k)) := ⟨fun a ha => uI_ne ha, fun j hj => by rw [rdU, if_neg (fun z => hj z.2)], rfl⟩
      have hD1 := mtD_dd hD g1
      obtain ⟨s', y1, y2, y3⟩ := ih (uI s 151 31 (nI k)) (by omega) hD1 (by rw [rdU, if_pos ⟨rfl, rfl⟩]) (fun j hj => ⟨by rw [uI_ne (by decide)]; exact (hp j (by omega)).1, (hp j (by omega)).2⟩)
      refine ⟨s', pre _ ?_, ⟨fun a ha => (y2.1 a ha).trans (g1.1 a ha), fun j hj => (y2.2.1 j hj).trans (g1.2.1 j hj), y2.2.2.trans g1.2.2⟩, by rw [est]; exact y3⟩
      rw [if_neg (by rw [n_LT (by omega) (by omega)]; exact fun z => q (Or.inl z)), if_neg (by rw [n_eq (by decide) (by omega)]; exact fun z => q (Or.inr z)), m_emitD hD1, bV_some]
      exact y1
/-- the loop ends -/
theorem m_deadExp (hk : k ≤ 2000) (hD : mtD s F p) (h31 : s.1 151 31 = nI k) (hp : ∀ j, j < k → s.1 163 j = nI (pl j) ∧ pl j < 30) : ∃ s', L_X12_readExp_20 en (d + 3) v1 v2 v3 v4 v5 s = some (some (.int v1), s') ∧ mtD s' F p ∧ ddF s s' := by
  obtain ⟨s', y1, y2, y3⟩ := m_settleD (en := en) (d := d) (r := 1) (by decide) k s hk hD h31 hp
  refine ⟨s', le_X12_readExp_20 en _ _ _ _ _ _ _ _ ?_, mtD_dd hD y2, y2⟩
  rw [m_goodD hD, bI_some, if_pos rfl]
  refine le_X12_readExp_488 en _ _ _ _ _ ?_
  rw [m_goodD hD, bI_some, if_pos rfl]
  refine le_X12_readExp_509 en _ _ _ _ ?_
  have e266 : qev en (d + 3) 266 [.ref 151, .int (1 : Int32)] s = some (none, s') := le_X12_settle en _ _ _ _ y1
  rw [e266, bV_some]
end DDM
