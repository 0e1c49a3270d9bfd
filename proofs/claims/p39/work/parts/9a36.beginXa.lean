/-! THE RUN begins, both sides. -/
section QD
variable {en : pN} {d : Nat} {σ τ : qS} {w nc nl nt n n' len t : Nat} {P f g : Nat → fI} {N : fI} {u v : Int32} {F G : fI} {b : Int32}
/-- the class's program p tells P -/
abbrev PXi (τ : qS) (p : Nat) (P : Nat → fI) : Prop := (∀ a, a < 25 → τ.1 (p + a) = P a) ∧ (lmN P ≤ 500 ∧ ∀ j, j < lmN P → τ.1 8 j = P 25 j) ∧ (∀ j, j < lmN P → τ.1 9 j = P 26 j)
/-- what a beginning of the class's run may change -/
abbrev frB (σ τ : qS) : Prop := (∀ a, a ≠ 0 → a ≠ 7 → a ≠ 10 → a ≠ 111 → a ≠ 112 → a ≠ 113 → a ≠ 115 → (a < 118 ∨ 124 ≤ a) → τ.1 a = σ.1 a) ∧ (∀ k, k ≠ 12 → τ.1 0 k = σ.1 0 k) ∧ (∀ k, k ≠ 4 → τ.1 7 k = σ.1 7 k) ∧ (∀ a, a ≠ 124 → τ.2.1 a = σ.2.1 a) ∧ (∀ a k, ¬ (a = 112 ∧ k = 7) → τ.2.2 a k = σ.2.2 a k)
theorem x_start {p : Nat} (hp : p = 11 ∨ p = 36) (hP1 : PXi τ p P) (hP : PV P nc nl nt n) (hw2 : w ≤ 2) : ∃ τ', qev en (d + 3) 154 [.ref 111, .ref p, .int (nI w)] τ = some (none, τ') ∧ frB τ τ' ∧ RXi τ' p P w (fst0 P w nc nt (τ.1 113)) 0 (fun r => τ.1 (118 + r)) ∧ τ'.1 0 = τ.1 0 := by
  obtain ⟨h1, h8, h9⟩ := hP1
  obtain ⟨⟨hc0, hc8⟩, -, ⟨ht0, ht4⟩, -⟩ := hP
  have e := x_first (en := en) (d := d) (σ := τ) (m := 112) (p := p) (F := τ.1 112) (N := τ.1 113) (b := τ.1 7 4) (G := τ.1 10) (Or.inr rfl) hp h1 h8 h9 hw2 hc0 hc8 ht0 ht4
  rw [show mS τ 112 (τ.1 112) (τ.1 113) (τ.1 7 4) (τ.1 10) = τ from mS_id] at e
  generalize hσ : uI (uI (uR τ 112 7 (p + 1)) 111 3 0) 111 4 1 = σ1
  have o : ∀ a, a ≠ 111 → σ1.1 a = τ.1 a := by
    intro a ha
    rw [← hσ]
    funext k
    show (if a = 111 ∧ k = 4 then (1 : Int32) else if a = 111 ∧ k = 3 then 0 else τ.1 a k) = _
    rw [if_neg (fun z => ha z.1), if_neg (fun z => ha z.1)]
  have hB : XB σ1 112 p P := by
    refine ⟨Or.inr rfl, hp, ?_, fun a ha => ?_, ?_, ?_⟩
    · rw [← hσ]
      show (if (112 : Nat) = 112 ∧ (7 : Nat) = 7 then p + 1 else τ.2.2 112 7) = p + 1
      exact if_pos ⟨rfl, rfl⟩
    · rw [o _ (by omega)]; exact h1 a ha
    · rw [o _ (by decide)]; exact h8
    · rw [o _ (by decide)]; exact h9
  have l3 : σ1.1 111 3 = nI 0 := by
    rw [← hσ]
    show (if (111 : Nat) = 111 ∧ (3 : Nat) = 4 then (1 : Int32) else if (111 : Nat) = 111 ∧ (3 : Nat) = 3 then 0 else τ.1 111 3) = nI 0
    rw [if_neg (by decide), if_pos ⟨rfl, rfl⟩]
    rfl
  have l4 : ¬ σ1.1 111 4 = 0 := by
    rw [← hσ]
    show ¬ (if (111 : Nat) = 111 ∧ (4 : Nat) = 4 then (1 : Int32) else if (111 : Nat) = 111 ∧ (4 : Nat) = 3 then (0 : Int32) else τ.1 111 4) = 0
    rw [if_pos ⟨rfl, rfl⟩]
    decide
  have er : rnS σ1 (nI 0) (fun r => τ.1 (118 + r)) (σ1.2.1 124) = σ1 := rn_id l3 (fun k hk => o _ (by omega))
  refine ⟨mS σ1 112 (upd (τ.1 112) 8 (nI w)) (fst0 P w nc nt (τ.1 113)) (τ.1 7 4) (τ.1 10), le_X8_start en (d + 2) _ _ _ _ ?_, ?_, ?_, ?_⟩
  · rw [gd_true (by rcases hp with z | z <;> subst z <;> rfl), e, bV_some, nm_eq, nm_eq, mS_wo (by decide) (by decide) (by decide) (by decide), mS_wo (by decide) (by decide) (by decide) (by decide), hσ]
  · refine ⟨fun a z0 z1 z2 z3 z4 z5 z6 z7 => ?_, fun k hk => ?_, fun k hk => ?_, fun a ha => ?_, fun a k hk => ?_⟩
    · rw [mS_o z4 z5 z2 z1]; exact o a z3
    · rw [mS_o (by decide) (by decide) (by decide) (by decide), o 0 (by decide)]
    · rw [mS_7 (Or.inr rfl) hk, o 7 (by decide)]
    · rw [← hσ]; rfl
    · rw [← hσ]
      show (if a = 112 ∧ k = 7 then p + 1 else τ.2.2 a k) = _
      exact if_neg hk
  · have h := rx_mk (σ := σ1) (len := 0) (f := fun r => τ.1 (118 + r)) (H := σ1.2.1 124) (F := upd (τ.1 112) 8 (nI w)) (N := fst0 P w nc nt (τ.1 113)) (b := τ.1 7 4) (G := τ.1 10) (w := w) hB pk_us l4 (fun j hj => absurd hj (Nat.not_lt_zero _))
    rw [er] at h
    exact h
  · rw [mS_o (by decide) (by decide) (by decide) (by decide), o 0 (by decide)]
theorem way_or (u : Int32) : (u < 0 ∨ 2 < u) ∨ ∃ w, w ≤ 2 ∧ u = nI w := by
  by_cases a0 : u < 0
  · exact Or.inl (Or.inl a0)
  by_cases a1 : 2 < u
  · exact Or.inl (Or.inr a1)
  obtain ⟨k, hk, rfl⟩ := nI_of a0
  rw [n_lt (by decide) (by omega)] at a1
  have : ¬ 2 < k := a1
  exact Or.inr ⟨k, by omega, rfl⟩
theorem x_isWay : qev en (d + 1) 238 [.int u] τ = some (some (.int (if u < 0 then 0 else if 2 < u then 0 else 1)), τ) := by
  refine le_X11_isWay en d _ _ _ ?_
  by_cases a0 : u < 0
  · rw [if_pos a0, if_pos a0]
  rw [if_neg a0, if_neg a0]
  by_cases a1 : 2 < u
  · rw [if_pos a1, if_pos a1]
  · rw [if_neg a1, if_neg a1]
theorem x_beginQ (hP1 : PXi τ 11 P) (hP : PV P nc nl nt n) (hin : ∀ c, c < nc → inR (P 4 c)) (h9 : ¬ τ.1 0 9 = 0) : ((u < 0 ∨ 2 < u) → qev en (d + 7) 207 [.ref 0, .int u] τ = some (some (.int (-1)), τ)) ∧ (∀ w, w ≤ 2 → u = nI w → ∃ τ', qev en (d + 7) 207 [.ref 0, .int u] τ = some (some (.int (nI (rdl P w (fst0 P w nc nt (τ.1 113)) nt nt).length)), τ') ∧ frB τ τ' ∧ RXi τ' 11 P w (fst0 P w nc nt (τ.1 113)) 0 (fun r => τ.1 (118 + r)) ∧ τ'.1 0 12 = 0) := by
  have i0 : ∀ a, a ≠ 0 → (uI τ 0 12 0).1 a = τ.1 a := by
    intro a ha
    funext k
    exact if_neg (fun z => ha z.1)
  refine ⟨fun hu => ?_, fun w hw2 hu => ?_⟩
  · refine le_X11_begin en (d + 6) _ _ _ ?_
    rw [if_neg h9, x_isWay, bI_some]
    rcases hu with z | z
    · rw [if_pos z]; exact if_neg (by decide)
    · by_cases a0 : u < 0
      · rw [if_pos a0]; exact if_neg (by decide)
      · rw [if_neg a0, if_pos z]; exact if_neg (by decide)
  · subst hu
    have hP1' : PXi (uI τ 0 12 0) 11 P := by
      refine ⟨fun a ha => ?_, ?_, ?_⟩
      · rw [i0 _ (by omega)]; exact hP1.1 a ha
      · rw [i0 _ (by decide)]; exact hP1.2.1
      · rw [i0 _ (by decide)]; exact hP1.2.2
    obtain ⟨τ1, e1, f1, r1, c1⟩ := x_start (en := en) (d := d + 3) (w := w) (Or.inl rfl) hP1' hP hw2
    have e113 : (uI τ 0 12 0).1 113 = τ.1 113 := i0 113 (by decide)
    rw [e113] at r1
    have hS := f0_SV (M := τ.1 113) hP hw2 hin
    have r1' : RXi τ1 11 P w (fst0 P w nc nt (τ.1 113)) 0 (fun r => τ.1 (118 + r)) := by
      obtain ⟨b1, b2, b3, b4, b5, b6, b7⟩ := r1
      refine ⟨b1, b2, b3, b4, b5, fun k hk => (b6 k hk).trans (i0 _ (by omega)), fun j hj => absurd hj (Nat.not_lt_zero _)⟩
    have hpic := rx_pic r1'
    obtain ⟨hB, hN, hw, hl, hv, hf, hA⟩ := r1'
    obtain ⟨F3, G3, R3, b3, e3, f3, -, hr, h40⟩ := x_list (en := en) (d := d) (σ := rnS τ1 (nI 0) (fun r => τ.1 (118 + r)) (τ1.2.1 124)) (F := τ1.1 112) (G := τ1.1 10) (b := τ1.1 7 4) (rn_XB hB) hP hS hw hw2
    rw [hpic, show (112 : Nat) + 3 = 115 from rfl, rn_r] at e3
    have fx := fx_pic (σ := τ1) (R := R3) (l := nI 0) (f := fun r => τ.1 (118 + r)) (H := τ1.2.1 124) (F := F3) (N := fst0 P w nc nt (τ.1 113)) (b := b3) (G := G3)
    refine ⟨mS (rnS (uIr τ1 115 R3) (nI 0) (fun r => τ.1 (118 + r)) (τ1.2.1 124)) 112 F3 (fst0 P w nc nt (τ.1 113)) b3 G3, le_X11_begin en (d + 6) _ _ _ ?_, ?_, rx_mkR hB ((f3 8 (by decide)).trans hw) hv hA, ?_⟩
    · have nw : ¬ nI w < 0 := nI_pos (by omega)
      have nw2 : ¬ (2 : Int32) < nI w := by rw [n_lt (by decide) (by omega)]; show ¬ 2 < w; omega
      rw [if_neg h9, x_isWay, bI_some, if_neg nw, if_neg nw2, if_pos (by decide), nm_eq, e1, bV_some, e3, bI_some]
    · obtain ⟨x1, x2, x3, x4, x5⟩ := fx
      obtain ⟨y1, y2, y3, y4, y5⟩ := f1
      refine ⟨fun a z0 z1 z2 z3 z4 z5 z6 z7 => ?_, fun k hk => ?_, fun k hk => ?_, fun a ha => ?_, fun a k hk => ?_⟩
      · rw [x1 a z1 z2 z3 z4 z5 z6 z7, y1 a z0 z1 z2 z3 z4 z5 z6 z7, i0 a z0]
      · rw [x1 0 (by decide) (by decide) (by decide) (by decide) (by decide) (by decide) (Or.inl (by decide)), y2 k hk]
        show (if (0 : Nat) = 0 ∧ k = 12 then (0 : Int32) else τ.1 0 k) = τ.1 0 k
        exact if_neg (fun z => hk z.2)
      · rw [x2 k hk, y3 k hk, i0 7 (by decide)]
      · rw [x4 a ha, y4 a ha]; rfl
      · rw [x5, y5 a k hk]; rfl
    · rw [fx.1 0 (by decide) (by decide) (by decide) (by decide) (by decide) (by decide) (Or.inl (by decide)), c1]
      show (if (0 : Nat) = 0 ∧ (12 : Nat) = 12 then (0 : Int32) else τ.1 0 12) = 0
      exact if_pos ⟨rfl, rfl⟩
end QD

