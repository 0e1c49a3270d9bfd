/-! ALL TURNS, the model's side: a state looked at. -/
abbrev fRm (σ σ' : qS) (F F' : fI) : Prop := (∀ c, c < 210 ∨ 226 < c → c ≠ 190 → σ'.1 c = σ.1 c) ∧ (∀ j, j < 62 ∨ 74 ≤ j → j ≠ 101 → j ≠ 102 → j ≠ 103 → j ≠ 115 → F' j = F j) ∧ σ'.2 = σ.2
def ROF (σ : qS) (F : fI) (L : List Nat) (so : Nat → Nat) (R : Nat → fI) : Prop := F 115 = nI L.length ∧ (∀ j, j < L.length → σ.1 221 j = nI (L.getD j 0) ∧ σ.1 225 j = nI (so (L.getD j 0))) ∧ TB (σ.1 222) 32768 L.length (fun j => hsO (R (L.getD j 0)))
def rcV (o : Option Nat) : Int32 := match o with
  | some i => nI i
  | none => -2
/-- what the model tells of the first k states -/
abbrev mcD (P : Nat → fI) (w nl nt : Nat) (k : Nat) (x : xT) (σ : qS) (F : fI) : Prop := (∀ i, i < k → σ.1 218 i = nI (xA x i)) ∧ (∀ i, i < k → σ.1 215 i = rdM P w (xS x i) nt nt ∧ σ.1 216 i = bt (endC P w (xS x i) nt) ∧ σ.1 217 i = if endC P w (xS x i) nt = true then nI (outN P w nt (xS x) i) else -2) ∧ F 103 = nI (endN P w nt (xS x) k) ∧ ROF σ F (outL P w nt (xS x) k) (fun i => soS (xS x i) nt) (fun i => sm w (xS x i)) ∧ (∀ z, z < 10000 → σ.1 223 z = rcV (fsR (fun i => hasR P w (xS x i) nt z) k)) ∧ (∀ c, c < 8 → σ.1 224 c = guS P w (xS x) nl nt k c) ∧ ∀ i, k ≤ i → i < xN x → σ.1 216 i = 0 ∧ σ.1 217 i = -2
section ML
variable {en : pN} {d w nc nl nt n t u k a l : Nat} {P : Nat → fI} {v1 v2 : Int32} {σ σ' : qS} {F F' s y g N : fI} {D : Int64} {x : xT} {fw : Bool}
theorem ROF_M {L : List Nat} {so : Nat → Nat} {R : Nat → fI} : ROM (mM σ F s y g D) L so R ↔ ROF σ F L so R := by
  unfold ROM ROF
  rw [mM_F, mM_o (a := 221) (by decide) (by decide) (by decide) (by decide), mM_o (a := 222) (by decide) (by decide) (by decide) (by decide), mM_o (a := 225) (by decide) (by decide) (by decide) (by decide)]
theorem nwO_M {L : List Nat} {p z : Nat} : nwO (mM σ F s y g D) L p z k = mM (uI (uI (uI σ 225 L.length (nI z)) 221 L.length (nI k)) 222 p (nI (L.length + 1))) (upd F 115 (nI (L.length + 1))) s y g D := by
  unfold nwO
  rw [mM_wo (by decide) (by decide) (by decide) (by decide), mM_wo (by decide) (by decide) (by decide) (by decide), mM_wF, mM_wo (by decide) (by decide) (by decide) (by decide)]
theorem mcI.fr (h : mcI P w nc nl nt n x σ F) (h1 : ∀ c, c < 187 ∨ (210 ≤ c ∧ c ≤ 214) ∨ c = 219 ∨ c = 220 → σ'.1 c = σ.1 c) (h2 : ∀ j, j = 12 ∨ j = 16 ∨ j = 18 ∨ j = 58 ∨ j = 59 ∨ j = 60 ∨ j = 73 ∨ j = 101 ∨ j = 102 → F' j = F j) : mcI P w nc nl nt n x σ' F' := by
  obtain ⟨hB, hF, hR, h102, hE, hW, hFd, h0, hO⟩ := h
  refine ⟨mb_cg (fun c a1 a2 a3 => h1 c (by omega)) hB, ⟨by rw [h2 12 (by decide)]; exact hF.1, by rw [h2 16 (by decide)]; exact hF.2.1, by rw [h2 18 (by decide)]; exact hF.2.2.1, by rw [h2 58 (by decide)]; exact hF.2.2.2.1, by rw [h2 59 (by decide)]; exact hF.2.2.2.2⟩, ⟨by rw [h2 101 (by decide)]; exact hR.1, by rw [h2 60 (by decide)]; exact hR.2.1, hR.2.2.1, fun i hi j hj => by rw [h1 210 (by omega)]; exact hR.2.2.2.1 i hi j hj, by rw [h1 211 (by omega)]; exact hR.2.2.2.2⟩, by rw [h2 102 (by decide)]; exact h102, fun e he => by rw [h1 219 (by omega), h1 220 (by omega)]; exact hE e he, fun i hi => by rw [h1 214 (by omega)]; exact hW i hi, fun i a1 a2 => by rw [h1 212 (by omega), h1 213 (by omega)]; exact hFd i a1 a2, by rw [h1 212 (by omega), h1 213 (by omega)]; exact h0, by rw [h2 73 (by decide)]; exact hO⟩
theorem rdl_nil_len {N : fI} : (rdl P w N nt nt).length = 0 ↔ endC P w N nt = true := by
  unfold endC
  rw [decide_eq_true_eq]
  exact List.length_eq_zero_iff
/-- from the quiet thread on -/
theorem m_232 (hP : PV P nc nl nt n) (hX : XV P w nc nl nt n x) (hI : mcI P w nc nl nt n x σ F) (hk : k < xN x) (hR : MR w (xS x k) s) {len : Nat} {R : fI} (h66 : F 66 = nI len) (hl : len ≤ 40) (h190 : σ.1 190 = R) : ∃ (v5 : Int32) (T : fI), ((onlS P nt fw x k = none ∧ v5 = -2) ∨ ∃ t, t < 4 ∧ onlS P nt fw x k = some (10 * t) ∧ v5 = nI t) ∧ (∀ j, j < len → T j = R j) ∧ ∀ r, L_X12_tryAll_296 en (d + 7) v1 (bt fw) (nI k) v5 (nI len) 0 (mM (uIr σ 226 T) F s y g D) = some r → L_X12_tryAll_232 en (d + 7) v1 (bt fw) (nI k) (mM σ F s y g D) = some r := by
  have ht4 := hP.2.2.1.2
  have hxN := hX.1.2
  have hlim := @lim_le w
  have eo : onlS P nt fw x k = if fw = true ∧ xWh x k = false then qtF P (xS x k) nt 0 else none := rfl
  obtain ⟨T, hT, hcp⟩ := m_copy226 (en := en) (d := d + 7) (v1 := v1) (v2 := bt fw) (F := F) (s := s) (y := y) (g := g) (D := D) hl h190
  have l255 : ∀ (v5 : Int32) r, L_X12_tryAll_296 en (d + 7) v1 (bt fw) (nI k) v5 (nI len) 0 (mM (uIr σ 226 T) F s y g D) = some r → L_X12_tryAll_255 en (d + 7) v1 (bt fw) (nI k) v5 (mM σ F s y g D) = some r := by
    intro v5 r hh
    refine le_X12_tryAll_255 en _ _ _ _ _ _ _ ?_
    rw [mM_F, h66]
    exact hcp _ _ r hh
  have e214 : (mM σ F s y g D).1 214 k = bt (xWh x k) := by rw [mM_o (by decide) (by decide) (by decide) (by decide)]; exact hI.2.2.2.2.2.1 k hk
  cases hw : fw with
  | false =>
    subst hw
    refine ⟨-2, T, Or.inl ⟨by rw [eo, if_neg (fun z => absurd z.1 (by decide))], rfl⟩, hT, fun r hh => le_X12_tryAll_232 en _ _ _ _ _ _ ?_⟩
    rw [if_pos (show bt false = (0 : Int32) from rfl)]
    exact l255 _ r hh
  | true =>
    subst hw
    cases hb : xWh x k with
    | true =>
      refine ⟨-2, T, Or.inl ⟨by rw [eo, if_neg (fun z => by rw [hb] at z; exact absurd z.2 (by decide))], rfl⟩, hT, fun r hh => le_X12_tryAll_232 en _ _ _ _ _ _ ?_⟩
      rw [if_neg (show ¬ bt true = (0 : Int32) by decide), gd_true (n_in (by omega) (by decide)), n_cl (by omega), e214, hb, if_pos (show ¬ bt true = (0 : Int32) by decide)]
      exact l255 _ r hh
    | false =>
      have e5 : ∀ v5 : Int32, v5 = (match qtF P (xS x k) nt 0 with
          | some a => nI (a / 10)
          | none => -2) → ∀ r, L_X12_tryAll_296 en (d + 7) v1 (bt true) (nI k) v5 (nI len) 0 (mM (uIr σ 226 T) F s y g D) = some r → L_X12_tryAll_232 en (d + 7) v1 (bt true) (nI k) (mM σ F s y g D) = some r := by
        intro v5 hv r hh
        refine le_X12_tryAll_232 en _ _ _ _ _ _ ?_
        rw [if_neg (show ¬ bt true = (0 : Int32) by decide), gd_true (n_in (by omega) (by decide)), n_cl (by omega), e214, hb, if_neg (show ¬ ¬ bt false = (0 : Int32) from fun z => z rfl), m_quiet (d := d + 5) hI.1 hP (hX.2.1 k hk) hI.2.1 hR, bI_some]
        have hh2 := l255 _ r hh
        rw [hv] at hh2
        cases hz : qtF P (xS x k) nt 0 with
        | none => rw [hz] at hh2; exact hh2
        | some a => rw [hz] at hh2; exact hh2
      rw [if_pos ⟨rfl, hb⟩] at eo
      rw [eo]
      cases hq : qtF P (xS x k) nt 0 with
      | none => exact ⟨-2, T, Or.inl ⟨rfl, rfl⟩, hT, e5 _ (by rw [hq])⟩
      | some a =>
        obtain ⟨u, h1, h2⟩ := qtF_10 _ _ _ hq
        subst h2
        exact ⟨nI u, T, Or.inr ⟨u, by omega, rfl, rfl⟩, hT, e5 _ (by rw [hq]; dsimp only; rw [show 10 * u / 10 = u by omega])⟩
end ML
