/-! THE READER: between declarations, on both sides: what stands, what is added. -/
/-- what reading a program changes at all -/
abbrev tqX (s s' : qS) : Prop := (∀ a, a ≠ 1 → a ≠ 65 → a ≠ 68 → (a < 7 ∨ a = 10 ∨ 35 < a) → s'.1 a = s.1 a) ∧ (∀ j, j ≠ 8 → j ≠ 9 → j ≠ 10 → s'.1 1 j = s.1 1 j) ∧ (∀ j, j ≠ 3 → s'.1 7 j = s.1 7 j) ∧ (∀ j, j < 11 ∨ 14 < j → s'.1 65 j = s.1 65 j) ∧ (∀ a, a ≠ 1 → a ≠ 67 → (a < 12 ∨ 13 < a) → s'.2.1 a = s.2.1 a) ∧ s'.2.2 = s.2.2
theorem rdJ {σ : qS} {a k b j : Nat} {v : Int64} : (uJ σ a k v).2.1 b j = if b = a ∧ j = k then v else σ.2.1 b j := rfl
section TPS
variable {en : pN} {d d' k i i' n N j x y c u v q nc nc' nl nl' nt nt' m : Nat} {V cl cl' th K : Nat → Nat} {U : Nat → Nat → Nat} {bl : Nat → List Nat} {s s' s'' t t' t'' : qS} {B : Nat → Nat} {w z : Int32} {W : Int64}
theorem tqX.rf : tqX s s := ⟨fun _ _ _ _ _ => rfl, fun _ _ _ _ => rfl, fun _ _ => rfl, fun _ _ => rfl, fun _ _ _ _ => rfl, rfl⟩
theorem tqX.tr (h : tqX s s') (g : tqX s' s'') : tqX s s'' := ⟨fun a h1 h2 h3 h4 => (g.1 a h1 h2 h3 h4).trans (h.1 a h1 h2 h3 h4), fun j a b c => (g.2.1 j a b c).trans (h.2.1 j a b c), fun j a => (g.2.2.1 j a).trans (h.2.2.1 j a), fun j a => (g.2.2.2.1 j a).trans (h.2.2.2.1 j a), fun a h1 h2 h3 => (g.2.2.2.2.1 a h1 h2 h3).trans (h.2.2.2.2.1 a h1 h2 h3), g.2.2.2.2.2.trans h.2.2.2.2.2⟩
theorem tqX.wk (h : wkX s s') : tqX s s' := ⟨fun a h1 h2 h3 h4 => h.1 a h1 h2 h3 (by omega), h.2.1, h.2.2.1.1, fun j a => h.2.2.2.1 j (by omega) (by omega) (by omega) (by omega), h.2.2.2.2.1, h.2.2.2.2.2⟩
theorem tqX.tk (h : tnF s s') : tqX s s' := tqX.wk (wkX.st (N := 0) (m := 0) (stF.tk h))
theorem tqX.bm (h : bmF s s') : tqX s s' := tqX.wk (wkX.bm h)
theorem tqX.ui (ha : 11 ≤ c ∧ c ≤ 35) : tqX s (uI s c j w) := ⟨fun b _ _ h3 h4 => uI_ne (by omega), fun j _ _ _ => by rw [uI_ne (by omega)], fun j _ => by rw [uI_ne (by omega)], fun j _ => by rw [uI_ne (by omega)], fun _ _ _ _ => rfl, rfl⟩
theorem tqX.uf (hj : 11 ≤ j ∧ j ≤ 14) : tqX s (uI s 65 j w) := ⟨fun b _ h2 _ _ => uI_ne h2, fun j _ _ _ => by rw [uI_ne (by decide)], fun j _ => by rw [uI_ne (by decide)], fun j' h => by rw [rdU, if_neg (by omega)], fun _ _ _ _ => rfl, rfl⟩
theorem tqX.uj (ha : c = 12 ∨ c = 13 ∨ c = 67) : tqX s (uJ s c j W) := ⟨fun _ _ _ _ _ => rfl, fun _ _ _ _ => rfl, fun _ _ => rfl, fun _ _ => rfl, fun a _ h _ => uJ_ne (by omega), rfl⟩
/-- a number has at most three figures -/
theorem num_lt (hB : ∀ j, j < n → B j < 256) (hi : i < tkL B n) (hk : tkK B n i = 3) : (tkN B n i).2.2.1 < 1000 := by
  obtain ⟨-, hp, h, -⟩ := aL_next (n + 1) 0 i _ (by omega) (by omega) (tk_at (B := B) hi)
  have hk' : (aTok B n (tkN B n i).1).1 = 3 := by rw [← h]; exact hk
  rw [h]
  generalize (tkN B n i).1 = p at *
  unfold aTok at hk' ⊢
  by_cases q1 : n ≤ p
  · rw [if_pos q1] at hk'
    simp at hk'
  rw [if_neg q1] at hk' ⊢
  by_cases q2 : ltr (B p) = true
  · exfalso
    rw [if_pos q2] at hk'
    by_cases q3 : wnd wch B (n - p) p - p ≤ 8
    · rw [if_pos q3] at hk'
      exact kyd_ne.2.2.1 hk'
    · rw [if_neg q3] at hk'
      simp at hk'
  rw [if_neg q2] at hk' ⊢
  by_cases q4 : dgt (B p) = true
  · rw [if_pos q4] at hk' ⊢
    by_cases q5 : wnd dgt B (n - p) p - p ≤ 3
    · rw [if_pos q5]
      exact (wcd10 (B := B) (n - p) p 0 0 (by decide) (by omega)).2.2
    · rw [if_neg q5] at hk'
      simp at hk'
  · rw [if_neg q4] at hk'
    exfalso
    have hg : gkd (B p) (byt B n (p + 1)) ≠ 3 := by
      have hb := hB p (by omega)
      unfold gkd
      repeat' split
      all_goals first | omega | (rename_i hs; have := sgn_rg hs; omega) | (rename_i hs _; have := sgn_rg hs; omega) | (rename_i hs _ _; have := sgn_rg hs; omega)
    exact hg hk'
/-- one more name, at a place that is free -/
theorem nmV_add (h : (∀ j, j < 16 → s.2.1 12 j = Int64.ofNat (V j) ∧ V j < 128 ^ 8) ∧ (∀ j, j < 16 → V j ≠ 0 → j < nc ∨ (8 ≤ j ∧ j < 8 + nl) ∨ (12 ≤ j ∧ j < 12 + nt)) ∧ ∀ i j, i < 16 → j < 16 → V i = V j → V i ≠ 0 → i = j) (hv : v < 128 ^ 8) (hnew : ∀ j, j < 16 → V j ≠ v) (hs : ∀ j, s'.2.1 12 j = if j = q then Int64.ofNat v else s.2.1 12 j) (hq : q < nc' ∨ (8 ≤ q ∧ q < 8 + nl') ∨ (12 ≤ q ∧ q < 12 + nt')) (h1 : nc ≤ nc') (h2 : nl ≤ nl') (h3 : nt ≤ nt') : (∀ j, j < 16 → s'.2.1 12 j = Int64.ofNat (at1 V q v j) ∧ at1 V q v j < 128 ^ 8) ∧ (∀ j, j < 16 → at1 V q v j ≠ 0 → j < nc' ∨ (8 ≤ j ∧ j < 8 + nl') ∨ (12 ≤ j ∧ j < 12 + nt')) ∧ ∀ i j, i < 16 → j < 16 → at1 V q v i = at1 V q v j → at1 V q v i ≠ 0 → i = j := by
  obtain ⟨a1, a2, a3⟩ := h
  refine ⟨fun j hj => ?_, fun j hj hz => ?_, fun i j hi hj he hz => ?_⟩
  · rw [hs]
    by_cases z : j = q
    · rw [if_pos z, z, at1_s]; exact ⟨rfl, hv⟩
    · rw [if_neg z, at1_n z]; exact a1 j hj
  · by_cases z : j = q
    · rw [z]; exact hq
    · rw [at1_n z] at hz
      have := a2 j hj hz
      omega
  · by_cases z : i = q
    · by_cases y : j = q
      · rw [z, y]
      · rw [z, at1_s, at1_n y] at he
        exact absurd he.symm (hnew j hj)
    · by_cases y : j = q
      · rw [y, at1_s, at1_n z] at he
        exact absurd he (hnew i hi)
      · rw [at1_n z, at1_n y] at he
        rw [at1_n z] at hz
        exact a3 i j hi hj he hz
end TPS

