/-! ALL TURNS, both sides: crossed orders, done. -/
section CRT
variable {en : pN} {d d' w nc nl nt n p k i j : Nat} {P : Nat → fI} {τ σ : qS} {X : xT} {fw : Bool} {O : Nat → Nat → Bool} {x : Int32} {T : fI}
abbrev orT (T : fI) (O : Nat → Nat → Bool) : Prop := ∀ a, a < 4 → ∀ q, q < 4 → (T a).toBitVec.getLsbD q = O a q
theorem va4 {f g : fI} {j : Nat} : va_cpy f g (0 : Int32).toNatClampNeg (0 : Int32).toNatClampNeg (4 : Int32).toNatClampNeg j = if j < 4 then f j else g j := by
  have e0 : (0 : Int32).toNatClampNeg = 0 := by decide
  have e4 : (4 : Int32).toNatClampNeg = 4 := by decide
  rw [e0, e4]
  unfold va_cpy
  by_cases h : j < 4
  · rw [if_pos h, if_pos (by omega), show 0 + (j - 0) = j by omega]
  · rw [if_neg h, if_neg (by omega)]
theorem x_cr23 (hk : k < 4) : ∀ (m i : Nat) (T : fI), i + m = 4 → orT T (stW k i 0 O) → ∃ T', orT T' (wsh k O) ∧ ∀ r, L_X0_crossed_16 en d (nI (k + 1)) (uIr τ 82 T') = some r → L_X0_crossed_23 en d (nI k) (nI i) (uIr τ 82 T) = some r := by
  intro m
  induction m with
  | zero =>
    intro i T hi hT
    obtain rfl : i = 4 := by omega
    refine ⟨T, fun a ha q hq => (hT a ha q hq).trans (if_pos (Or.inl ha)), fun r hh => le_X0_crossed_23 en _ _ _ _ _ ?_⟩
    rw [if_pos (show (4 : Int32) ≤ nI 4 from Int32.le_refl _), n_ar]
    exact hh
  | succ m ih =>
    intro i T hi hT
    have hi4 : i < 4 := by omega
    have b1 : (T i >>> (nI k &&& 31)) &&& (1 : Int32) = if O i k = true then 1 else 0 := by rw [bitI (by omega), hT i hi4 k hk, stW_k]
    have start : ∀ r, (if (T i >>> (nI k &&& 31)) &&& (1 : Int32) = (0 : Int32) then L_X0_crossed_23 en d (nI k) (nI (i + 1)) (uIr τ 82 T) else L_X0_crossed_23 en d (nI k) (nI (i + 1)) (uIr τ 82 (upd T i (T i ||| T k)))) = some r → L_X0_crossed_23 en d (nI k) (nI i) (uIr τ 82 T) = some r := by
      intro r hh
      refine le_X0_crossed_23 en _ _ _ _ _ ?_
      rw [if_neg (by rw [show (4 : Int32) = nI 4 from rfl, n_LE (by omega) (by omega)]; omega), gd_true (n_in (by omega) (by decide)), gd_true (n_in (by omega) (by decide)), n_cl (by omega), n_cl (by omega), uIr_row, nm_eq, uIr_u, n_ar]
      exact hh
    rw [b1] at start
    cases e1 : O i k with
    | false =>
      rw [e1, if_pos (by decide)] at start
      obtain ⟨T', h1, h2⟩ := ih (i + 1) T (by omega) (fun a ha q hq => by
        rw [hT a ha q hq]
        unfold stW
        by_cases z : a = i
        · subst z
          rw [if_neg (by omega), if_pos (by omega)]
          unfold wsh
          rw [e1]; simp
        · by_cases y : a < i
          · rw [if_pos (by omega), if_pos (by omega)]
          · rw [if_neg (by omega), if_neg (by omega)])
      exact ⟨T', h1, fun r hh => start r (h2 r hh)⟩
    | true =>
      rw [e1, if_neg (by decide)] at start
      obtain ⟨T', h1, h2⟩ := ih (i + 1) (upd T i (T i ||| T k)) (by omega) (fun a ha q hq => by
        by_cases z : a = i
        · subst z
          rw [pk_us, Int32.toBitVec_or, BitVec.getLsbD_or, hT a ha q hq, hT k hk q hq, stW_r]
          unfold stW
          rw [if_neg (by omega), if_pos (by omega)]
          unfold wsh
          rw [e1, Bool.true_and]
        · rw [pk_un z, hT a ha q hq]
          unfold stW
          by_cases y : a < i
          · rw [if_pos (by omega), if_pos (by omega)]
          · rw [if_neg (by omega), if_neg (by omega)])
      exact ⟨T', h1, fun r hh => start r (h2 r hh)⟩
theorem x_cr16 : ∀ (m k : Nat) (T : fI), k + m = 4 → orT T (wsK O k) → ∃ T', orT T' (wsK O 4) ∧ ∀ r, L_X0_crossed_72 en d 0 0 (uIr τ 82 T') = some r → L_X0_crossed_16 en d (nI k) (uIr τ 82 T) = some r := by
  intro m
  induction m with
  | zero =>
    intro k T hk hT
    obtain rfl : k = 4 := by omega
    refine ⟨T, hT, fun r hh => le_X0_crossed_16 en _ _ _ _ ?_⟩
    rw [if_pos (show (4 : Int32) ≤ nI 4 from Int32.le_refl _)]
    exact hh
  | succ m ih =>
    intro k T hk hT
    obtain ⟨T1, h1, h2⟩ := x_cr23 (en := en) (d := d) (τ := τ) (show k < 4 by omega) 4 0 T (by omega) (fun a ha q hq => (hT a ha q hq).trans (if_neg (by omega)).symm)
    obtain ⟨T', h3, h4⟩ := ih (k + 1) T1 (by omega) h1
    refine ⟨T', h3, fun r hh => le_X0_crossed_16 en _ _ _ _ ?_⟩
    rw [if_neg (by rw [show (4 : Int32) = nI 4 from rfl, n_LE (by omega) (by omega)]; omega)]
    exact h2 r (h4 r hh)
theorem x_cr72 (hT : orT T O) : L_X0_crossed_72 en d 0 0 (uIr τ 82 T) = some (some (.int (bt (crs O))), uIr τ 82 T) := by
  have one : ∀ j, j < 4 → ∀ c : Bool, ∀ r, L_X0_crossed_72 en d (bt (c || O j j)) (nI (j + 1)) (uIr τ 82 T) = some r → L_X0_crossed_72 en d (bt c) (nI j) (uIr τ 82 T) = some r := by
    intro j hj c r hh
    refine le_X0_crossed_72 en _ _ _ _ _ ?_
    have e : bt c ||| (if O j j = true then (1 : Int32) else 0) = bt (c || O j j) := by
      cases c <;> cases O j j <;> decide
    rw [if_neg (by rw [show (4 : Int32) = nI 4 from rfl, n_LE (by omega) (by omega)]; omega), gd_true (n_in (by omega) (by decide)), n_cl (by omega), uIr_row, bitI (by omega), hT j hj j hj, e, nm_eq, n_ar]
    exact hh
  refine one 0 (by decide) false _ (one 1 (by decide) _ _ (one 2 (by decide) _ _ (one 3 (by decide) _ _ (le_X0_crossed_72 en _ _ _ _ _ ?_))))
  rw [if_pos (show (4 : Int32) ≤ nI (3 + 1) from Int32.le_refl _)]
  unfold crs
  rw [Bool.false_or]
theorem x_crossed {g : fI} (hg : τ.1 79 = g) (hO : orT g O) : ∃ τ' : qS, qev en (d + 1) 6 [.ref 76] τ = some (some (.int (bt (crs (wsK O 4)))), τ') ∧ (∀ c, c ≠ 82 → τ'.1 c = τ.1 c) ∧ τ'.2 = τ.2 := by
  let T0 : fI := va_cpy (τ.1 79) (τ.1 82) (0 : Int32).toNatClampNeg (0 : Int32).toNatClampNeg (4 : Int32).toNatClampNeg
  have h0 : orT T0 (wsK O 0) := fun a ha q hq => by
    show (va_cpy (τ.1 79) (τ.1 82) (0 : Int32).toNatClampNeg (0 : Int32).toNatClampNeg (4 : Int32).toNatClampNeg a).toBitVec.getLsbD q = _
    rw [va4, if_pos ha, hg]; exact hO a ha q hq
  obtain ⟨T', h1, h2⟩ := x_cr16 (en := en) (d := d) (τ := τ) 4 0 T0 (by decide) h0
  refine ⟨uIr τ 82 T', le_X0_crossed en _ _ _ ?_, fun c hc => uIr_ne hc, rfl⟩
  rw [gd_true (by decide), nm_eq]
  exact h2 _ (x_cr72 h1)
theorem m_crossed (h120 : σ.1 151 120 = x) (hO : orM x O) : qev en (d + 1) 387 [.ref 151] σ = some (some (.int (bt (crs (wsK O 4)))), σ) := by
  obtain ⟨x', h1, h2⟩ := m_cr7 (en := en) (d := d) (σ := σ) 4 0 x (by decide) hO
  refine le_X12_areCrossed en _ _ _ ?_
  rw [h120]
  refine h2 _ (le_X12_areCrossed_7 en _ _ _ _ _ ?_)
  have s0 : x' >>> (nI 0 &&& 31) = x' := by
    rw [← Int32.toBitVec_inj, sm32 (by decide), shr_bv (by decide)]
    simp
  have b0 : (x' &&& (1 : Int32) = 1) ↔ wsK O 4 0 0 = true := by
    have := bit_eq (x := x') (i := 0) (by decide)
    rw [s0, show (0 : Nat) = 4 * 0 + 0 from rfl, h1 0 (by decide) 0 (by decide)] at this
    exact this
  have b : ∀ a, a < 4 → (((x' >>> (nI (4 * a + a) &&& 31)) &&& (1 : Int32) = 1) ↔ wsK O 4 a a = true) := fun a ha => by rw [bit_eq (by omega), h1 a ha a ha]
  have b1 : ((x' >>> ((5 : Int32) &&& 31)) &&& (1 : Int32) = 1) ↔ wsK O 4 1 1 = true := b 1 (by decide)
  have b2 : ((x' >>> ((10 : Int32) &&& 31)) &&& (1 : Int32) = 1) ↔ wsK O 4 2 2 = true := b 2 (by decide)
  have b3 : ((x' >>> ((15 : Int32) &&& 31)) &&& (1 : Int32) = 1) ↔ wsK O 4 3 3 = true := b 3 (by decide)
  rw [if_pos (show (4 : Int32) ≤ nI 4 from Int32.le_refl _)]
  unfold crs
  by_cases q0 : wsK O 4 0 0 = true
  · rw [if_pos (b0.mpr q0), q0]; rfl
  rw [if_neg (fun z => q0 (b0.mp z)), Bool.not_eq_true _ |>.mp q0]
  by_cases q1 : wsK O 4 1 1 = true
  · rw [if_pos (b1.mpr q1), q1]; rfl
  rw [if_neg (fun z => q1 (b1.mp z)), Bool.not_eq_true _ |>.mp q1]
  by_cases q2 : wsK O 4 2 2 = true
  · rw [if_pos (b2.mpr q2), q2]; rfl
  rw [if_neg (fun z => q2 (b2.mp z)), Bool.not_eq_true _ |>.mp q2]
  by_cases q3 : wsK O 4 3 3 = true
  · rw [if_neg (fun z => z (b3.mpr q3)), q3]; rfl
  · rw [if_pos (fun z => q3 (b3.mp z)), Bool.not_eq_true _ |>.mp q3]; rfl
end CRT
