/-! ALL TURNS, both sides: crossed orders. -/
def wsh (k : Nat) (O : Nat → Nat → Bool) : Nat → Nat → Bool := fun a b => O a b || (O a k && O k b)
/-- all ways, through the first k -/
def wsK (O : Nat → Nat → Bool) : Nat → Nat → Nat → Bool
  | 0 => O
  | k + 1 => wsh k (wsK O k)
def stW (k i j : Nat) (O : Nat → Nat → Bool) : Nat → Nat → Bool := fun a b => if a < i ∨ (a = i ∧ b < j) then wsh k O a b else O a b
def crs (O : Nat → Nat → Bool) : Bool := (((O 0 0 || O 1 1) || O 2 2) || O 3 3)
section CRS
variable {en : pN} {d d' w nc nl nt n p k i j : Nat} {P : Nat → fI} {τ σ : qS} {X : xT} {fw : Bool} {O : Nat → Nat → Bool} {x : Int32}
theorem wsh_k {a : Nat} : wsh k O a k = O a k := by unfold wsh; cases O a k <;> simp
theorem wsh_r {b : Nat} : wsh k O k b = O k b := by unfold wsh; cases O k b <;> simp
theorem stW_k {a : Nat} : stW k i j O a k = O a k := by unfold stW; split; exact wsh_k; rfl
theorem stW_r {b : Nat} : stW k i j O k b = O k b := by unfold stW; split; exact wsh_r; rfl
theorem orM_cg {O' : Nat → Nat → Bool} (h : orM x O) (e : ∀ a, a < 4 → ∀ b, b < 4 → O a b = O' a b) : orM x O' := fun a ha b hb => (h a ha b hb).trans (e a ha b hb)
theorem bit_eq (hi : i < 32) : ((x >>> (nI i &&& 31)) &&& (1 : Int32) = 1) ↔ x.toBitVec.getLsbD i = true := by
  rw [bitI hi]
  cases x.toBitVec.getLsbD i <;> decide
theorem m_cr22 (hk : k < 4) (hi : i < 4) : ∀ (m j : Nat) (x : Int32), j + m = 4 → orM x (stW k i j O) → ∃ x', orM x' (stW k i 4 O) ∧ ∀ r, L_X12_areCrossed_14 en d x' (nI k) (nI (i + 1)) σ = some r → L_X12_areCrossed_22 en d x (nI k) (nI i) (nI j) σ = some r := by
  intro m
  induction m with
  | zero =>
    intro j x hj hx
    obtain rfl : j = 4 := by omega
    refine ⟨x, hx, fun r hh => le_X12_areCrossed_22 en _ _ _ _ _ _ _ ?_⟩
    rw [if_pos (show (4 : Int32) ≤ nI 4 from Int32.le_refl _), n_ar]
    exact hh
  | succ m ih =>
    intro j x hj hx
    have hge : ¬ (4 : Int32) ≤ nI j := by rw [show (4 : Int32) = nI 4 from rfl, n_LE (by omega) (by omega)]; omega
    have b1 : ((x >>> (nI (4 * i + k) &&& 31)) &&& (1 : Int32) = 1) ↔ O i k = true := by rw [bit_eq (by omega), hx i hi k hk, stW_k]
    have b2 : ((x >>> (nI (4 * k + j) &&& 31)) &&& (1 : Int32) = 1) ↔ O k j = true := by rw [bit_eq (by omega), hx k hk j (by omega), stW_r]
    have step : ∀ c : Bool, c = (O i k && O k j) → ∃ x', orM x' (stW k i 4 O) ∧ ∀ r, L_X12_areCrossed_14 en d x' (nI k) (nI (i + 1)) σ = some r → L_X12_areCrossed_60 en d x (nI k) (nI i) (nI j) (bt c) σ = some r := by
      intro c hc
      have hst : ∀ a, a < 4 → ∀ b, b < 4 → stW k i (j + 1) O a b = (stW k i j O a b || (decide (a = i) && decide (b = j) && c)) := by
        intro a ha b hb
        unfold stW
        by_cases q : a = i ∧ b = j
        · rw [if_pos (by omega), if_neg (by omega), decide_eq_true q.1, decide_eq_true q.2, q.1, q.2, hc]
          unfold wsh; simp
        · have : (decide (a = i) && decide (b = j)) = false := by
            by_cases z : a = i
            · rw [decide_eq_false (fun y => q ⟨z, y⟩), Bool.and_false]
            · rw [decide_eq_false z, Bool.false_and]
          rw [this, Bool.false_and, Bool.or_false]
          by_cases z : a < i ∨ (a = i ∧ b < j)
          · rw [if_pos z, if_pos (by omega)]
          · rw [if_neg z, if_neg (by omega)]
      cases c with
      | false =>
        obtain ⟨x', h1, h2⟩ := ih (j + 1) x (by omega) (orM_cg hx (fun a ha b hb => by rw [hst a ha b hb]; simp))
        refine ⟨x', h1, fun r hh => le_X12_areCrossed_60 en _ _ _ _ _ _ _ _ ?_⟩
        rw [if_pos (show bt false = (0 : Int32) from rfl), Int32.or_zero, n_ar]
        exact h2 r hh
      | true =>
        obtain ⟨x', h1, h2⟩ := ih (j + 1) (x ||| ((1 : Int32) <<< (nI (4 * i + j) &&& 31))) (by omega) (fun a ha b hb => by
          rw [orb (by omega) (by omega), hx a ha b hb, hst a ha b hb]
          by_cases q : a = i ∧ b = j
          · rw [decide_eq_true (show 4 * a + b = 4 * i + j by omega), decide_eq_true q.1, decide_eq_true q.2]; simp
          · rw [decide_eq_false (show ¬ 4 * a + b = 4 * i + j by omega)]
            by_cases z : a = i
            · rw [decide_eq_false (fun y => q ⟨z, y⟩)]; simp
            · rw [decide_eq_false z]; simp)
        refine ⟨x', h1, fun r hh => le_X12_areCrossed_60 en _ _ _ _ _ _ _ _ ?_⟩
        rw [if_neg (show ¬ bt true = (0 : Int32) by decide), n_ml, nI_add, nm_eq, n_ar]
        exact h2 r hh
    obtain ⟨x', h1, h2⟩ := step (O i k && O k j) rfl
    refine ⟨x', h1, fun r hh => le_X12_areCrossed_22 en _ _ _ _ _ _ _ ?_⟩
    have h := h2 r hh
    rw [if_neg hge, n_ml, nI_add, n_ml, nI_add]
    cases e1 : O i k with
    | false =>
      rw [e1] at h b1
      rw [if_pos (fun z => absurd (b1.mp z) (by decide))]
      exact h
    | true =>
      rw [e1] at h b1
      rw [if_neg (fun z => z (b1.mpr rfl))]
      cases e2 : O k j with
      | false =>
        rw [e2] at h b2
        rw [if_pos (fun z => absurd (b2.mp z) (by decide))]
        exact h
      | true =>
        rw [e2] at h b2
        rw [if_neg (fun z => z (b2.mpr rfl))]
        exact h
theorem m_cr14 (hk : k < 4) : ∀ (m i : Nat) (x : Int32), i + m = 4 → orM x (stW k i 0 O) → ∃ x', orM x' (wsh k O) ∧ ∀ r, L_X12_areCrossed_7 en d x' (nI (k + 1)) σ = some r → L_X12_areCrossed_14 en d x (nI k) (nI i) σ = some r := by
  intro m
  induction m with
  | zero =>
    intro i x hi hx
    obtain rfl : i = 4 := by omega
    refine ⟨x, orM_cg hx (fun a ha b hb => if_pos (Or.inl ha)), fun r hh => le_X12_areCrossed_14 en _ _ _ _ _ _ ?_⟩
    rw [if_pos (show (4 : Int32) ≤ nI 4 from Int32.le_refl _), n_ar]
    exact hh
  | succ m ih =>
    intro i x hi hx
    obtain ⟨x1, h1, h2⟩ := m_cr22 (en := en) (d := d) (σ := σ) hk (show i < 4 by omega) 4 0 x (by omega) hx
    obtain ⟨x', h3, h4⟩ := ih (i + 1) x1 (by omega) (orM_cg h1 (fun a ha b hb => by
      unfold stW
      by_cases q : a < i + 1
      · rw [if_pos (by omega), if_pos (by omega)]
      · rw [if_neg (by omega), if_neg (by omega)]))
    refine ⟨x', h3, fun r hh => le_X12_areCrossed_14 en _ _ _ _ _ _ ?_⟩
    rw [if_neg (by rw [show (4 : Int32) = nI 4 from rfl, n_LE (by omega) (by omega)]; omega)]
    exact h2 r (h4 r hh)
theorem m_cr7 : ∀ (m k : Nat) (x : Int32), k + m = 4 → orM x (wsK O k) → ∃ x', orM x' (wsK O 4) ∧ ∀ r, L_X12_areCrossed_7 en d x' (nI 4) σ = some r → L_X12_areCrossed_7 en d x (nI k) σ = some r := by
  intro m
  induction m with
  | zero =>
    intro k x hk hx
    obtain rfl : k = 4 := by omega
    exact ⟨x, hx, fun r hh => hh⟩
  | succ m ih =>
    intro k x hk hx
    obtain ⟨x1, h1, h2⟩ := m_cr14 (en := en) (d := d) (σ := σ) (show k < 4 by omega) 4 0 x (by omega) (orM_cg hx (fun a ha b hb => (if_neg (by omega)).symm))
    obtain ⟨x', h3, h4⟩ := ih (k + 1) x1 (by omega) h1
    refine ⟨x', h3, fun r hh => le_X12_areCrossed_7 en _ _ _ _ _ ?_⟩
    rw [if_neg (by rw [show (4 : Int32) = nI 4 from rfl, n_LE (by omega) (by omega)]; omega)]
    exact h2 r (h4 r hh)
end CRS
