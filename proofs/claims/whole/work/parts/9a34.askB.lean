/-! THE RUN: what it is asked, both sides; further. -/
section QB
variable {en : pN} {d : Nat} {σ τ : qS} {p w nc nl nt n len t : Nat} {P f g : Nat → fI} {N T : fI} {u v : Int32}
theorem m_held (hm : RMi σ P w N nc nl nt n len g) (hP : PV P nc nl nt n) (hS : SV P w nc nl nt n N) : qev en (d + 1) 341 [.ref 151, .int u, .int v] σ = some (some (.int (if u < 0 then -1 else if u < nI nl then hdR N (clp u) v.toInt else -1)), σ) := by
  have hl4 := hP.2.1.2
  have ht4 := hP.2.2.1.2
  obtain ⟨hB, hR, hW, ⟨h12, h16, h18, h76, h78, h74⟩, hg, hX⟩ := hm
  refine le_X12_held en d _ _ _ _ ?_
  rw [if_neg h74, h16]
  by_cases a0 : u < 0
  · rw [if_pos a0, if_pos a0]
  rw [if_neg a0, if_neg a0]
  by_cases a1 : u < nI nl
  · obtain ⟨l, hl, rfl⟩ := nI_of a0
    have a2 := a1
    rw [n_LT (by omega) (by omega)] at a1
    rw [if_neg (Int32.not_le.mpr a2), if_pos a2, show clp (nI l) = l from n_clp (by omega)]
    simp only [n_al]
    rw [gd_true (n_in (by show 36 + l < 216; omega) (by decide)), gd_true (n_in (by show 40 + l < 216; omega) (by decide)), n_cl (by show 36 + l < _; omega), n_cl (by show 40 + l < _; omega)]
    show ((if v < 0 then some (some (Value.int (-1 : Int32)), σ) else if v ≤ 1 then (if ¬ v = 1 then (if ¬ σ.1 191 (36 + l) = 0 then some (some (Value.int (σ.1 191 (36 + l) - 1)), σ) else some (some (Value.int (-2 : Int32)), σ)) else some (some (Value.int (σ.1 191 (40 + l))), σ)) else some (some (Value.int (-1 : Int32)), σ)) : Option qR) = _
    rw [mr_ow hR (by omega), mr_t1 hR (by omega)]
    have e1 : (if ¬ N (40 + l) + 1 = 0 then some (some (Value.int (N (40 + l) + 1 - 1)), σ) else some (some (.int (-2 : Int32)), σ) : Option qR) = some (some (.int (if 0 ≤ N (40 + l) then N (40 + l) else -2)), σ) := by
      rcases ow_two hS (show l < 4 by omega) with z | ⟨i, hi, z⟩
      · rw [z, if_neg (by decide), if_neg (by decide)]
      · rw [z, if_pos (by rw [n_ar]; exact fun q => by have := (nI_eq (b := 0) (show i + 1 < 2 ^ 31 by omega) (by decide)).mp q; omega), if_pos (by rw [n_le (by decide) (by omega)]; exact Nat.zero_le _)]
        congr 4
        rw [n_ar, n_sr (by show 1 ≤ i + 1; omega)]
        rfl
    rw [e1]
    unfold hdR
    by_cases v0 : v < 0
    · have h1 := Int32.lt_iff_toInt_lt.mp v0
      have h0 : (0 : Int32).toInt = 0 := by decide
      rw [if_pos v0, if_neg (show ¬ v.toInt = 0 by omega), if_neg (show ¬ v.toInt = 1 by omega)]
    · rw [if_neg v0]
      obtain ⟨k, hk, rfl⟩ := nI_of v0
      have ek : (nI k).toInt = (k : Int) := n_to hk
      by_cases v1 : k ≤ 1
      · rw [if_pos (by rw [n_ge (by decide) hk]; exact v1)]
        rcases (by omega : k = 0 ∨ k = 1) with z | z
        · subst z
          rw [if_pos (show ¬ nI 0 = (1 : Int32) by decide), if_pos (show (nI 0).toInt = 0 by decide)]
        · subst z
          rw [if_neg (show ¬ ¬ nI 1 = (1 : Int32) by decide), if_neg (show ¬ (nI 1).toInt = 0 by decide), if_pos (show (nI 1).toInt = 1 by decide)]
      · rw [if_neg (by rw [n_ge (by decide) hk]; exact v1), ek, if_neg (by omega), if_neg (by omega)]
  · rw [if_neg a1, if_pos (Int32.not_lt.mp a1)]
/-- what is told of a local -/
theorem x_localQ (h : RXi τ p P w N len f) (h11 : τ.1 11 11 = nI nt) (ht4 : nt ≤ 4) (h3 : ∀ t, t < nt → τ.1 (11 + 3) t = nI (lct P t) ∧ lct P t ≤ 6) : qev en (d + 3) 211 [.ref 0, .int u, .int v] τ = some (some (.int (if u < 0 then -1000 else if u < nI nt then (if v < 0 then -1000 else if v < nI (lct P (clp u)) then N (16 + clp u * 6 + clp v) else -1000) else -1000)), τ) := by
  obtain ⟨hB, hN, hw, hl, hv, hf, hA⟩ := h
  have e92 : qev en (d + 1) 92 [.ref 11, .int u] τ = some (some (.int (if u < 0 then 0 else if nI nt ≤ u then 0 else 1)), τ) := by
    refine le_X5_hasThread en d 11 _ _ _ ?_
    rw [gd_true (by rfl), h11]
    by_cases a0 : u < 0
    · rw [if_pos a0, if_pos a0]
    rw [if_neg a0, if_neg a0]
    by_cases a1 : nI nt ≤ u
    · rw [if_pos a1, if_pos a1]
    · rw [if_neg a1, if_neg a1]
  have out : ∀ {x : Int32}, qev en (d + 2) 93 [.ref 11, .int u, .int v] τ = some (some (.int 0), τ) → x = -1000 → qev en (d + 3) 211 [.ref 0, .int u, .int v] τ = some (some (.int x), τ) := by
    intro x e hx
    refine le_X11_local en (d + 2) _ _ _ _ ?_
    rw [if_pos hv, e, bI_some, hx]
    exact if_pos rfl
  by_cases a0 : u < 0
  · refine out (le_X5_hasLocal en (d + 1) 11 _ _ _ _ ?_) (if_pos a0)
    rw [gd_true (by rfl), e92, bI_some, if_pos a0]
    exact if_pos rfl
  by_cases a1 : u < nI nt
  · obtain ⟨t, ht, rfl⟩ := nI_of a0
    have a2 := a1
    rw [n_LT (by omega) (by omega)] at a1
    obtain ⟨h31, h32⟩ := h3 t a1
    rw [if_neg a0, if_pos a2, show clp (nI t) = t from n_clp (by omega)]
    rw [if_neg a0, if_neg (Int32.not_le.mpr a2)] at e92
    by_cases v0 : v < 0
    · refine out (le_X5_hasLocal en (d + 1) 11 _ _ _ _ ?_) (if_pos v0)
      rw [gd_true (by rfl), e92, bI_some, if_neg (by decide), if_pos v0]
    obtain ⟨k, hk, rfl⟩ := nI_of v0
    rw [if_neg v0]
    by_cases v1 : k < lct P t
    · rw [if_pos (by rw [n_LT (by omega) (by omega)]; exact v1), show clp (nI k) = k from n_clp (by omega)]
      refine le_X11_local en (d + 2) _ _ _ _ ?_
      have e93 : qev en (d + 2) 93 [.ref 11, .int (nI t), .int (nI k)] τ = some (some (.int 1), τ) := by
        refine le_X5_hasLocal en (d + 1) 11 _ _ _ _ ?_
        rw [gd_true (by rfl), e92, bI_some, if_neg (by decide), if_neg v0, gd_true (n_in (by omega) (by decide)), n_cl (by omega), h31, if_neg (by rw [n_LE (by omega) (by omega)]; omega)]
      have e32 : qev en (d + 2) 32 [.int (nI t), .int (nI k)] τ = some (some (.int (nI (16 + t * 6 + k))), τ) := by
        refine le_X3_localSlot en (d + 1) _ _ _ _ ?_
        rw [n_mr, n_al]
        congr 4
        exact (Int32.ofNat_add _ _).symm
      rw [if_pos hv, e93, bI_some, if_neg (by decide), e32, bI_some, gd_true (n_in (by omega) (by decide)), hN, n_cl (by omega)]
    · refine out (le_X5_hasLocal en (d + 1) 11 _ _ _ _ ?_) (if_neg (by rw [n_LT (by omega) (by omega)]; exact v1))
      rw [gd_true (by rfl), e92, bI_some, if_neg (by decide), if_neg v0, gd_true (n_in (by omega) (by decide)), n_cl (by omega), h31, if_pos (by rw [n_LE (by omega) (by omega)]; omega)]
  · refine out (le_X5_hasLocal en (d + 1) 11 _ _ _ _ ?_) (by rw [if_neg a0, if_neg a1])
    rw [gd_true (by rfl), e92, bI_some, if_neg a0, if_pos (Int32.not_lt.mp a1)]
    exact if_pos rfl
theorem m_localQ (hm : RMi σ P w N nc nl nt n len g) (ht4 : nt ≤ 4) (h3 : ∀ t, t < nt → σ.1 159 t = nI (lct P t) ∧ lct P t ≤ 6) : qev en (d + 2) 338 [.ref 151, .int u, .int v] σ = some (some (.int (if u < 0 then -1000 else if u < nI nt then (if v < 0 then -1000 else if v < nI (lct P (clp u)) then N (16 + clp u * 6 + clp v) else -1000) else -1000)), σ) := by
  obtain ⟨hB, hR, hW, ⟨h12, h16, h18, h76, h78, h74⟩, hg, hX⟩ := hm
  refine le_X12_local en (d + 1) _ _ _ _ ?_
  rw [if_pos h74, m_isThread h18, bI_some]
  by_cases a0 : u < 0
  · rw [if_pos a0, if_pos a0]
    exact if_pos rfl
  rw [if_neg a0, if_neg a0]
  by_cases a1 : u < nI nt
  · obtain ⟨t, ht, rfl⟩ := nI_of a0
    have a2 := a1
    rw [n_LT (by omega) (by omega)] at a1
    obtain ⟨h31, h32⟩ := h3 t a1
    rw [if_pos a2, if_pos a2, if_neg (by decide), show clp (nI t) = t from n_clp (by omega)]
    by_cases v0 : v < 0
    · rw [if_pos v0, if_pos v0]
    obtain ⟨k, hk, rfl⟩ := nI_of v0
    rw [if_neg v0, if_neg v0, gd_true (n_in (by omega) (by decide)), n_cl (by omega), h31]
    by_cases v1 : k < lct P t
    · have e : ((12 : Int32) + ((6 : Int32) * nI t)) + nI k = nI (12 + 6 * t + k) := by
        rw [n_ml, n_al]
        exact (Int32.ofNat_add _ _).symm
      rw [if_pos (by rw [n_LT (by omega) (by omega)]; exact v1), if_pos (by rw [n_LT (by omega) (by omega)]; exact v1), e, gd_true (n_in (by omega) (by decide)), n_cl (by omega), show clp (nI k) = k from n_clp (by omega), mr_lo hR (by omega) (by omega), show 12 + 6 * t + k + 4 = 16 + t * 6 + k by omega]
    · rw [if_neg (by rw [n_LT (by omega) (by omega)]; exact v1), if_neg (by rw [n_LT (by omega) (by omega)]; exact v1)]
  · rw [if_neg a1, if_neg a1]
    exact if_pos rfl
end QB
