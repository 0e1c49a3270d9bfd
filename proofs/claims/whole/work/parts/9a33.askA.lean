/-! THE RUN: what it is asked, both sides. -/
section QA
variable {en : pN} {d : Nat} {σ τ : qS} {p w nc nl nt n len t : Nat} {P f g : Nat → fI} {N T : fI} {u v : Int32}
theorem sw4 {α : Type} {z : Int} {A B C D E : Option α} : swI z 0 [A, B, C, D] E = if z = 0 then A else if z = 1 then B else if z = 2 then C else if z = 3 then D else E := rfl
theorem ln_two (hS : SV P w nc nl nt n N) (ht : t < nt) : N (4 + t) = -1 ∨ ∃ i, i < n ∧ N (4 + t) = nI i := by
  rcases hS.1.1 t ht with ⟨-, z, -⟩ | ⟨-, ⟨i, hi, h, -⟩, -⟩ | ⟨-, ⟨i, hi, h, -⟩, -⟩ | ⟨-, z, -⟩
  · exact Or.inl z
  · exact Or.inr ⟨i, hi, h⟩
  · exact Or.inr ⟨i, hi, h⟩
  · exact Or.inl z
/-- what is told of a thread -/
def thR (N : fI) (t : Nat) (z : Int) : Int32 := if z = 0 then N t else if z = 1 then (if 0 ≤ N (4 + t) then N (4 + t) else -2) else if z = 2 then N (8 + t) else if z = 3 then N (56 + t) else -1
theorem x_thread (h : RXi τ p P w N len f) (h11 : τ.1 11 11 = nI nt) (ht4 : nt ≤ 4) : qev en (d + 1) 210 [.ref 0, .int u, .int v] τ = some (some (.int (if u < 0 then -1 else if u < nI nt then thR N (clp u) v.toInt else -1)), τ) := by
  obtain ⟨hB, hN, hw, hl, hv, hf, hA⟩ := h
  refine le_X11_thread en d _ _ _ _ ?_
  rw [if_neg hv, h11]
  by_cases a0 : u < 0
  · rw [if_pos a0, if_pos a0]
  rw [if_neg a0, if_neg a0]
  by_cases a1 : u < nI nt
  · obtain ⟨t, ht, rfl⟩ := nI_of a0
    have a2 := a1
    rw [n_LT (by omega) (by omega)] at a1
    rw [if_pos a2, if_pos a2, sw4, show clp (nI t) = t from n_clp (by omega), hN]
    simp only [n_al]
    rw [gd_true (n_in (by show 0 + t < 236; omega) (by decide)), gd_true (n_in (by show 4 + t < 236; omega) (by decide)), gd_true (n_in (by show 8 + t < 236; omega) (by decide)), gd_true (n_in (by show 56 + t < 236; omega) (by decide)), n_cl (by show 0 + t < _; omega), n_cl (by show 4 + t < _; omega), n_cl (by show 8 + t < _; omega), n_cl (by show 56 + t < _; omega)]
    show ((if v.toInt = 0 then some (some (Value.int (N (0 + t))), τ) else if v.toInt = 1 then (if (0 : Int32) ≤ N (4 + t) then some (some (Value.int (N (4 + t))), τ) else some (some (Value.int (-2 : Int32)), τ)) else if v.toInt = 2 then some (some (Value.int (N (8 + t))), τ) else if v.toInt = 3 then some (some (Value.int (N (56 + t))), τ) else some (some (Value.int (-1 : Int32)), τ)) : Option qR) = _
    rw [Nat.zero_add]
    unfold thR
    repeat' split
    all_goals rfl
  · rw [if_neg a1, if_neg a1]
theorem m_isThread (h18 : σ.1 151 18 = nI nt) : qev en (d + 1) 336 [.ref 151, .int u] σ = some (some (.int (if u < 0 then 0 else if u < nI nt then 1 else 0)), σ) := by
  refine le_X12_isThread en d _ _ _ ?_
  rw [h18]
  by_cases a0 : u < 0
  · rw [if_pos a0, if_pos a0]
  rw [if_neg a0, if_neg a0]
  by_cases a1 : u < nI nt
  · rw [if_pos a1, if_neg (Int32.not_le.mpr a1)]
  · rw [if_neg a1, if_pos (Int32.not_lt.mp a1)]
theorem m_thread (hm : RMi σ P w N nc nl nt n len g) (hP : PV P nc nl nt n) (hS : SV P w nc nl nt n N) (hw2 : w ≤ 2) : qev en (d + 2) 337 [.ref 151, .int u, .int v] σ = some (some (.int (if u < 0 then -1 else if u < nI nt then thR N (clp u) v.toInt else -1)), σ) := by
  have ht4 := hP.2.2.1.2
  have hn := hP.2.2.2.1.2
  obtain ⟨hB, hR, hW, ⟨h12, h16, h18, h76, h78, h74⟩, hg, hX⟩ := hm
  refine le_X12_thread en (d + 1) _ _ _ _ ?_
  rw [if_neg h74, m_isThread h18, bI_some]
  by_cases a0 : u < 0
  · rw [if_pos a0, if_pos a0]
    exact if_neg (by decide)
  rw [if_neg a0, if_neg a0]
  by_cases a1 : u < nI nt
  · obtain ⟨t, ht, rfl⟩ := nI_of a0
    have a2 := a1
    rw [n_LT (by omega) (by omega)] at a1
    rw [if_pos a2, if_pos a2, if_pos (by decide), sw4, show clp (nI t) = t from n_clp (by omega)]
    simp only [n_al]
    rw [gd_true (n_in (by show 0 + t < 216; omega) (by decide)), gd_true (n_in (by show 4 + t < 216; omega) (by decide)), gd_true (n_in (by omega) (by decide)), gd_true (n_in (by show 52 + t < 216; omega) (by decide)), n_cl (by show 0 + t < _; omega), n_cl (by show 4 + t < _; omega), n_cl (by omega), n_cl (by show 52 + t < _; omega), h76]
    show ((if v.toInt = 0 then some (some (Value.int (σ.1 191 (0 + t))), σ) else if v.toInt = 1 then (if ¬ σ.1 191 (4 + t) = 0 then some (some (Value.int (σ.1 191 (4 + t) - 1)), σ) else some (some (Value.int (-2 : Int32)), σ)) else if v.toInt = 2 then some (some (Value.int (σ.1 192 t)), σ) else if v.toInt = 3 then (if ¬ nI w = 1 then some (some (Value.int (0 : Int32)), σ) else some (some (Value.int (σ.1 191 (52 + t))), σ)) else some (some (Value.int (-1 : Int32)), σ)) : Option qR) = _
    rw [Nat.zero_add, mr_st hR (by omega), mr_ln hR (by omega), hW t a1]
    have e1 : (if ¬ N (4 + t) + 1 = 0 then some (some (Value.int (N (4 + t) + 1 - 1)), σ) else some (some (.int (-2 : Int32)), σ) : Option qR) = some (some (.int (if 0 ≤ N (4 + t) then N (4 + t) else -2)), σ) := by
      rcases ln_two hS a1 with z | ⟨i, hi, z⟩
      · rw [z, if_neg (by decide), if_neg (by decide)]
      · rw [z, if_pos (by rw [n_ar]; exact fun q => by have := (nI_eq (b := 0) (show i + 1 < 2 ^ 31 by omega) (by decide)).mp q; omega), if_pos (by rw [n_le (by decide) (by omega)]; exact Nat.zero_le _)]
        congr 4
        rw [n_ar, n_sr (by show 1 ≤ i + 1; omega)]
        rfl
    have e3 : (if ¬ nI w = 1 then some (some (Value.int (0 : Int32)), σ) else some (some (.int (σ.1 191 (52 + t))), σ) : Option qR) = some (some (.int (N (56 + t))), σ) := by
      by_cases hw : w = 1
      · subst hw
        rw [if_neg (fun z => z rfl), mr_bu hR (by omega)]
      · rw [if_pos (show ¬ nI w = (1 : Int32) from fun z => hw ((nI_eq (b := 1) (by omega) (by decide)).mp z))]
        rcases hS.2.2.2.2.1 t (by omega) with ⟨q, -⟩ | ⟨-, q, -⟩
        · exact absurd q hw
        · rw [q]
    rw [e1, e3]
    unfold thR
    repeat' split
    all_goals rfl
  · rw [if_neg a1, if_neg a1]
    exact if_neg (by decide)
/-- what is told of a cell -/
theorem x_cellQ (h : RXi τ p P w N len f) (h9 : τ.1 11 9 = nI nc) (hc8 : nc ≤ 8) : qev en (d + 2) 212 [.ref 0, .int u] τ = some (some (.int (if u < 0 then -1000 else if u < nI nc then N (48 + clp u) else -1000)), τ) := by
  obtain ⟨hB, hN, hw, hl, hv, hf, hA⟩ := h
  have e90 : qev en (d + 1) 90 [.ref 11, .int u] τ = some (some (.int (if u < 0 then 0 else if nI nc ≤ u then 0 else 1)), τ) := by
    refine le_X5_hasCell en d 11 _ _ _ ?_
    rw [gd_true (by rfl), h9]
    by_cases a0 : u < 0
    · rw [if_pos a0, if_pos a0]
    rw [if_neg a0, if_neg a0]
    by_cases a1 : nI nc ≤ u
    · rw [if_pos a1, if_pos a1]
    · rw [if_neg a1, if_neg a1]
  refine le_X11_cell en (d + 1) _ _ _ ?_
  rw [if_neg hv, e90, bI_some]
  by_cases a0 : u < 0
  · rw [if_pos a0, if_pos a0]
    exact if_pos rfl
  rw [if_neg a0, if_neg a0]
  by_cases a1 : u < nI nc
  · obtain ⟨c, hc, rfl⟩ := nI_of a0
    have a2 := a1
    rw [n_LT (by omega) (by omega)] at a1
    rw [if_neg (Int32.not_le.mpr a2), if_pos a2, if_neg (by decide), hN, show clp (nI c) = c from n_clp (by omega), n_al, gd_true (n_in (by show 48 + c < 236; omega) (by decide)), n_cl (by show 48 + c < _; omega)]
  · rw [if_neg a1, if_pos (Int32.not_lt.mp a1)]
    exact if_pos rfl
theorem m_cellQ (hm : RMi σ P w N nc nl nt n len g) (hc8 : nc ≤ 8) : qev en (d + 1) 339 [.ref 151, .int u] σ = some (some (.int (if u < 0 then -1000 else if u < nI nc then N (48 + clp u) else -1000)), σ) := by
  obtain ⟨hB, hR, hW, ⟨h12, h16, h18, h76, h78, h74⟩, hg, hX⟩ := hm
  refine le_X12_cell en d _ _ _ ?_
  rw [if_neg h74, h12]
  by_cases a0 : u < 0
  · rw [if_pos a0, if_pos a0]
  rw [if_neg a0, if_neg a0]
  by_cases a1 : u < nI nc
  · obtain ⟨c, hc, rfl⟩ := nI_of a0
    have a2 := a1
    rw [n_LT (by omega) (by omega)] at a1
    rw [if_pos a2, if_pos a2, show clp (nI c) = c from n_clp (by omega), n_al, gd_true (n_in (by show 44 + c < 216; omega) (by decide)), n_cl (by show 44 + c < _; omega)]
    show some (some (Value.int (σ.1 191 (44 + c))), σ) = _
    rw [mr_me hR (by omega)]
  · rw [if_neg a1, if_neg a1]
theorem sw2L {α : Type} {z : Int} {A B E : Option α} : swL z [(0, A), (1, B)] E = if 0 = z then A else if 1 = z then B else E := rfl
theorem ow_two (hS : SV P w nc nl nt n N) {l : Nat} (hl : l < 4) : N (40 + l) = -1 ∨ ∃ t, t < nt ∧ N (40 + l) = nI t := by
  rcases hS.2.2.1 l hl with ⟨z, -⟩ | ⟨-, t, q, ht, z, -⟩
  · exact Or.inl z
  · exact Or.inr ⟨t, ht, z⟩
/-- what is told of a lock -/
def hdR (N : fI) (l : Nat) (z : Int) : Int32 := if z = 0 then (if 0 ≤ N (40 + l) then N (40 + l) else -2) else if z = 1 then N (44 + l) else -1
theorem x_held (h : RXi τ p P w N len f) (h10 : τ.1 11 10 = nI nl) (hl4 : nl ≤ 4) : qev en (d + 2) 214 [.ref 0, .int u, .int v] τ = some (some (.int (if u < 0 then -1 else if u < nI nl then hdR N (clp u) v.toInt else -1)), τ) := by
  obtain ⟨hB, hN, hw, hl, hv, hf, hA⟩ := h
  have e91 : qev en (d + 1) 91 [.ref 11, .int u] τ = some (some (.int (if u < 0 then 0 else if nI nl ≤ u then 0 else 1)), τ) := by
    refine le_X5_hasLock en d 11 _ _ _ ?_
    rw [gd_true (by rfl), h10]
    by_cases a0 : u < 0
    · rw [if_pos a0, if_pos a0]
    rw [if_neg a0, if_neg a0]
    by_cases a1 : nI nl ≤ u
    · rw [if_pos a1, if_pos a1]
    · rw [if_neg a1, if_neg a1]
  refine le_X11_held en (d + 1) _ _ _ _ ?_
  rw [if_neg hv, e91, bI_some]
  by_cases a0 : u < 0
  · rw [if_pos a0, if_pos a0]
    exact if_neg (by decide)
  rw [if_neg a0, if_neg a0]
  by_cases a1 : u < nI nl
  · obtain ⟨l, hl, rfl⟩ := nI_of a0
    have a2 := a1
    rw [n_LT (by omega) (by omega)] at a1
    rw [if_neg (Int32.not_le.mpr a2), if_pos a2, if_pos (by decide), hN, show clp (nI l) = l from n_clp (by omega)]
    simp only [n_al]
    rw [gd_true (n_in (by show 40 + l < 236; omega) (by decide)), nm_eq, sw2L, gd_true (n_in (by show 44 + l < 236; omega) (by decide)), n_cl (by show 40 + l < _; omega), n_cl (by show 44 + l < _; omega)]
    show ((if 0 = v.toInt then (if (0 : Int32) ≤ N (40 + l) then some (some (Value.int (N (40 + l))), τ) else some (some (Value.int (-2 : Int32)), τ)) else if 1 = v.toInt then some (some (Value.int (N (44 + l))), τ) else some (some (Value.int (-1 : Int32)), τ)) : Option qR) = _
    unfold hdR
    by_cases z0 : v.toInt = 0
    · rw [if_pos z0.symm, if_pos z0]
      split <;> rfl
    rw [if_neg (fun w => z0 w.symm), if_neg z0]
    by_cases z1 : v.toInt = 1
    · rw [if_pos z1.symm, if_pos z1]
    · rw [if_neg (fun w => z1 w.symm), if_neg z1]
  · rw [if_neg a1, if_pos (Int32.not_lt.mp a1)]
    exact if_neg (by decide)
end QA
