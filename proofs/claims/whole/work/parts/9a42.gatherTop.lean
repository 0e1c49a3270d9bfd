/-! THE HISTORY, the class's side: gather as a whole. -/
section GW2
variable {en : pN} {d : Nat} {σ : qS} {P f : Nat → fI} {p len : Nat} {ki ai : Int32}
theorem gS_id : gS σ (σ.1 125 8) (fun r => σ.1 (127 + r)) (σ.1 148) = σ := by
  refine Prod.ext (funext fun a => funext fun k => ?_) rfl
  show (if 127 ≤ a ∧ a < 133 then σ.1 (127 + (a - 127)) k else if a = 148 then σ.1 148 k else if a = 125 ∧ k = 8 then σ.1 125 8 else σ.1 a k) = σ.1 a k
  by_cases q : 127 ≤ a ∧ a < 133
  · rw [if_pos q, show 127 + (a - 127) = a by omega]
  rw [if_neg q]
  by_cases z : a = 148
  · rw [if_pos z, z]
  rw [if_neg z]
  by_cases u : a = 125 ∧ k = 8
  · rw [if_pos u, u.1, u.2]
  · rw [if_neg u]
def fl4 (O : fI) (m : Nat) : fI := fun k => if k < m then -1 else O k
theorem fl4_s {O : fI} {m : Nat} : upd (fl4 O m) m (-1) = fl4 O (m + 1) := by
  funext k
  show (if k = m then (-1 : Int32) else if k < m then -1 else O k) = (if k < m + 1 then -1 else O k)
  by_cases q : k = m
  · rw [if_pos q, if_pos (by omega)]
  · rw [if_neg q]
    by_cases z : k < m
    · rw [if_pos z, if_pos (by omega)]
    · rw [if_neg z, if_neg (by omega)]
theorem x_fill {n : Int32} {C : Nat → fI} {O : fI} : qev en (d + 1) 435 [.ref 148, .int (-1)] (gS σ n C O) = some (none, gS σ n C (fl4 O 4)) := by
  have loop : ∀ (k m : Nat), m + k = 4 → L_J7_fill_53178_5 en d 148 (-1) (nI m) (nI 4) (gS σ n C (fl4 O m)) = some (none, gS σ n C (fl4 O 4)) := by
    intro k
    induction k with
    | zero =>
      intro m hm
      rw [show m = 4 by omega]
      refine le_J7_fill_53178_5 en d _ _ _ _ _ _ ?_
      rw [gd_true (by rfl), if_pos (by decide)]
    | succ k ih =>
      intro m hm
      refine le_J7_fill_53178_5 en d _ _ _ _ _ _ ?_
      rw [gd_true (by rfl), if_neg (by rw [n_LE (by omega) (by omega)]; omega), gd_true (n_in (show m < ln 148 from by show m < 4; omega) (by decide)), nm_eq, n_cl (by omega), gS_wO, fl4_s, n_ar]
      exact ih (m + 1) (by omega)
  refine le_J7_fill_53178 en d _ _ _ _ ?_
  rw [gd_true (by rfl)]
  have h := loop 4 0 (by decide)
  have e0 : fl4 O 0 = O := by
    funext k
    exact if_neg (by omega)
  rw [e0] at h
  exact h
theorem x_gather {st : Nat} (hf : ∀ k, k < 6 → σ.1 (118 + k) = f k) (hl : σ.1 111 3 = nI len) (hlen : len ≤ 200) (hr : σ.2.2 112 7 = p + 1) (hp : lc p = 5) (hp2 : p = 11 ∨ p = 36) (h16 : σ.1 (p + 16) = P 16) (hst : st ≤ 3) (hs : σ.1 125 10 = nI st) (hki : ki = (([0, 2, 3, 5] : List Int32).getD st 0)) (hai : ai = (([1, 1, 4, 6] : List Int32).getD st 0)) (hft : ∀ i, i < len → ∃ t, t < 4 ∧ f 0 i = nI t) (hfl : ∀ i, i < len → f 3 i = 15 → ∃ l, l < 100 ∧ f 2 i = nI l) : (gth P f ki ai len 0 (0, (fun r => σ.1 (127 + r)), fl4 (σ.1 148) 4) = none → ∃ y : gaT, qev en (d + 2) 12 [.ref 125, .ref 111] σ = some (some (.int 0), gS σ (nI y.1) y.2.1 y.2.2)) ∧ (∀ y, gth P f ki ai len 0 (0, (fun r => σ.1 (127 + r)), fl4 (σ.1 148) 4) = some y → qev en (d + 2) 12 [.ref 125, .ref 111] σ = some (some (.int 1), gS σ (nI y.1) y.2.1 y.2.2)) := by
  have g0 : gaK (0, (fun r => σ.1 (127 + r)), fl4 (σ.1 148) 4) 0 := ⟨Nat.le_refl _, fun t ht => Or.inl (by
    show (if t < 4 then (-1 : Int32) else σ.1 148 t) < 0
    rw [if_pos ht]; decide)⟩
  obtain ⟨a, b⟩ := x_gather15 (en := en) (d := d) (P := P) (σ := σ) hf hl hlen hr hp hp2 h16 hst hs hki hai hft hfl len 0 _ (by omega) g0
  have top : ∀ r, L_X1_gather_15 en (d + 1) (nI 0) (gS σ (nI 0) (fun r => σ.1 (127 + r)) (fl4 (σ.1 148) 4)) = some r → qev en (d + 2) 12 [.ref 125, .ref 111] σ = some r := by
    intro r h
    refine le_X1_gather en (d + 1) _ _ ?_
    have e : uI σ 125 8 0 = gS σ 0 (fun r => σ.1 (127 + r)) (σ.1 148) := by
      have := gS_wn (σ := σ) (n := σ.1 125 8) (v := 0) (C := fun r => σ.1 (127 + r)) (O := σ.1 148)
      rw [gS_id] at this
      exact this
    rw [nm_eq, e, x_fill, bV_some]
    exact h
  exact ⟨fun z => (a z).imp (fun y hy => top _ hy), fun y hy => top _ (b y hy)⟩
end GW2
