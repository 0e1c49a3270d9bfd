/-! ALL TURNS, both sides: schedules. -/
/-- the steps from state i back to the first -/
def pth (Fd : Nat → Nat × Nat) : Nat → Nat → List Nat
  | 0, _ => []
  | m + 1, i => if i = 0 then [] else (Fd i).2 :: pth Fd m (Fd i).1
section SC
variable {en : pN} {d d' w nc nl nt n p o j : Nat} {P : Nat → fI} {τ σ : qS} {X : xT} {fw : Bool} {a q z : Int32}
theorem pth_len {Fd : Nat → Nat × Nat} (N : Nat) (hF : ∀ i, 1 ≤ i → i < N → (Fd i).1 < i) : ∀ m i, i < N → (pth Fd m i).length ≤ i := by
  intro m
  induction m with
  | zero => intro i _; exact Nat.zero_le _
  | succ m ih =>
    intro i hi
    unfold pth
    split
    · exact Nat.zero_le _
    · have h1 := hF i (by omega) hi
      have := ih (Fd i).1 (by omega)
      rw [List.length_cons]; omega
/-- what both ask of the tables of the path -/
abbrev fdX (X : xT) (g : fI) : Prop := ∀ i, 1 ≤ i → i < xN X → g i = nI ((xF X i).1 * 64 + stN (xF X i).2) ∧ (xF X i).1 < i ∧ (xF X i).2 < 40
theorem x_stateOf {t a : Nat} (ha : a < 40) (ht : t < 2 ^ 20) : qev en (d + 1) 187 [.int (nI (t * 64 + stN a))] τ = some (some (.int (nI t)), τ) := by
  refine le_X10_stateOf en _ _ _ _ ?_
  rw [ed_st ha ht]
theorem x_threadOf {t a : Nat} (ha : a < 40) (ht : t < 2 ^ 20) : qev en (d + 1) 188 [.int (nI (t * 64 + stN a))] τ = some (some (.int (nI (a / 10))), τ) := by
  refine le_X10_threadOf en _ _ _ _ ?_
  rw [ed_th ha ht]
theorem x_schedLen (h : fdX X (τ.1 91)) (hN : xN X ≤ 20000) : ∀ m i v z, i ≤ m → i < xN X → z + i < 20000 → v ≤ z → L_X10_scheduleLength_7 en (d + 1) (nI v) (nI i) (nI z) τ = some (some (.int (nI (v + (pth (xF X) m i).length))), τ) := by
  intro m
  induction m with
  | zero =>
    intro i v z hi hiN hz hv
    obtain rfl : i = 0 := by omega
    refine le_X10_scheduleLength_7 en _ _ _ _ _ _ ?_
    rw [if_neg (by rw [show (20000 : Int32) = nI 20000 from rfl, n_LE (by omega) (by omega)]; omega), if_pos (show nI 0 ≤ (0 : Int32) from Int32.le_refl _)]
    rfl
  | succ m ih =>
    intro i v z hi hiN hz hv
    refine le_X10_scheduleLength_7 en _ _ _ _ _ _ ?_
    rw [if_neg (by rw [show (20000 : Int32) = nI 20000 from rfl, n_LE (by omega) (by omega)]; omega)]
    by_cases q : i = 0
    · subst q
      rw [if_pos (show nI 0 ≤ (0 : Int32) from Int32.le_refl _)]; rfl
    · obtain ⟨h1, h2, h3⟩ := h i (by omega) hiN
      have e : pth (xF X) (m + 1) i = (xF X i).2 :: pth (xF X) m (xF X i).1 := if_neg q
      rw [if_neg (by rw [show (0 : Int32) = nI 0 from rfl, n_LE (by omega) (by omega)]; omega), gd_true (n_in (by omega) (by decide)), n_cl (by omega), h1, x_stateOf h3 (by omega), bI_some, n_ar, n_ar, e, List.length_cons]
      have := ih (xF X i).1 (v + 1) (z + 1) (by omega) (by omega) (by omega) (by omega)
      rw [this, show v + 1 + (pth (xF X) m (xF X i).1).length = v + ((pth (xF X) m (xF X i).1).length + 1) by omega]
theorem x_schedStep (h : fdX X (τ.1 91)) (hN : xN X ≤ 20000) {K : Nat} (hK : K < 20000) : ∀ m i z, i ≤ m → i < xN X → z ≤ K → K - z < (pth (xF X) m i).length → L_X10_scheduledStep_5 en (d + 1) (nI K) (nI i) (nI z) τ = some (some (.int (nI ((pth (xF X) m i).getD (K - z) 0))), τ) := by
  intro m
  induction m with
  | zero => intro i z _ _ _ hl; exact absurd hl (Nat.not_lt_zero _)
  | succ m ih =>
    intro i z hi hiN hz hl
    by_cases q : i = 0
    · subst q; exact absurd hl (Nat.not_lt_zero _)
    obtain ⟨h1, h2, h3⟩ := h i (by omega) hiN
    have e : pth (xF X) (m + 1) i = (xF X i).2 :: pth (xF X) m (xF X i).1 := if_neg q
    rw [e, List.length_cons] at hl
    rw [e]
    have hi0 : ¬ nI i ≤ (0 : Int32) := by rw [show (0 : Int32) = nI 0 from rfl, n_LE (by omega) (by omega)]; omega
    refine le_X10_scheduledStep_5 en _ _ _ _ _ _ ?_
    by_cases hzK : z = K
    · subst hzK
      rw [if_pos (Int32.le_refl _), Nat.sub_self]
      refine le_X10_scheduledStep_31 en _ _ _ _ ?_
      rw [if_neg hi0, gd_true (n_in (by omega) (by decide)), n_cl (by omega), h1, x_threadOf h3 (by omega), bI_some, h1, ed_ch h3 (by omega), n_mr, nI_add]
      show some (some (Value.int (nI ((xF X i).2 / 10 * 10 + (xF X i).2 % 10))), τ) = some (some (.int (nI (xF X i).2)), τ)
      rw [show (xF X i).2 / 10 * 10 + (xF X i).2 % 10 = (xF X i).2 by omega]
    · rw [if_neg (by rw [n_LE (by omega) (by omega)]; omega), if_neg hi0, gd_true (n_in (by omega) (by decide)), n_cl (by omega), h1, x_stateOf h3 (by omega), bI_some, n_ar]
      have := ih (xF X i).1 (z + 1) (by omega) (by omega) (by omega) (by omega)
      rw [this, show K - z = K - (z + 1) + 1 by omega]
      rfl
end SC
