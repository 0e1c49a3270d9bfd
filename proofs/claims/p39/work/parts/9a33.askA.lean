/-! THE RUN: what it is asked, both sides. -/
section QA
variable {en : pN} {d : Nat} {σ τ : qS} {p w nc nl nt n len t : Nat} {P f g : Nat → fI} {N T : fI} {u v : Int32}
theorem sw4 {α : Type} {z : Int} {A B C D E : Option α} : swI z 0 [A, B, C, D] E = if z = 0 then A else if z = 1 then B else if z = 2 then C else if z = 3 then D else E := rfl
theorem ln_two (hS : SV P w nc nl nt n N) (ht : t < nt) : N (4 + t) = -1 ∨ ∃ i, i < n ∧ N (4 + t) = nI i := by
  rcases hS.1.1 t ht with ⟨-, z, -⟩ | ⟨-, ⟨i, hi, h, -⟩, -⟩ | ⟨-, ⟨i, hi, h, -⟩, -⟩ | ⟨-, z, -⟩
  · exact Or.inl z
  · exact Or.inr ⟨i, hi, h⟩
  · exact Or.inr ⟨i, hi, h⟩
  · exact Or.inl z
/-- what is told of a thread -/
def thR (N : fI) (t : Nat) (z : Int) : Int32 := if z = 0 then N t else if z = 1 then (if 0 ≤ N (4 + t) then N (4 + t) else -2) else if z = 2 then N (8 + t) else if z = 3 then N (56 + t) else -1
theorem x_thread (h : RXi τ p P w N len f) (h11 : τ.1 11 11 = nI nt) (ht4 : nt ≤ 4) : qev en (d + 1) 210 [.ref 0, .int u, .int v] τ = some (some (.int (if u < 0 then -1 else if u < nI nt then thR N (clp u) v.toInt else -1)), τ) := by
  obtain ⟨hB, hN, hw, hl, hv, hf, hA⟩ := h
  refine le_X11_thread en d _ _ _ _ ?_
  rw [if_neg hv, h11]
  by_cases a0 : u < 0
  · rw [if_pos a0, if_pos a0]
  rw [if_neg a0, if_neg a0]
  by_cases a1 : u < nI nt
  · obtain ⟨t, ht, rfl⟩ := nI_of a0
    have a2 := a1
    rw [n_LT (by omega) (by omega)] at a1
    rw [if_pos a2, if_pos a2, sw4, show clp (nI t) = t from n_clp (by omega), hN]
    simp only [n_al]
    rw [gd_true (n_in (by show 0 + t < 236; omega) (by decide)), gd_true (n_in (by show 4 + t < 236; omega) (by decide)), gd_true (n_in (by show 8 + t < 236; omega) (by decide)), gd_true (n_in (by show 56 + t < 236; omega) (by decide)), n_cl (by show 0 + t < _; omega), n_cl (by show 4 + t < _; omega), n_cl (by show 8 + t < _; omega), n_cl (by show 56 + t < _; omega)]
    show ((if v.toInt = 0 then some (some (Value.int (N (0 + t))), τ) else if v.toInt = 1 then (if (0 : Int32) ≤ N (4 + t) then some (some (Value.int (N (4 + t))), τ) else some (some (Value.int (-2 : Int32)), τ)) else if v.toInt = 2 then some (some (Value.int (N (8 + t))), τ) else if v.toInt = 3 then some (some (Value.int (N (56 + t))), τ) else some (some (Value.int (-1 : Int32)), τ)) : Option qR) = _
    rw [Nat.zero_add]
    unfold thR
    repeat' split
    all_goals rfl
  · rw [if_neg a1, if_neg a1]
/-- what is told of a cell -/
theorem x_cellQ (h : RXi τ p P w N len f) (h9 : τ.1 11 9 = nI nc) (hc8 : nc ≤ 8) : qev en (d + 2) 212 [.ref 0, .int u] τ = some (some (.int (if u < 0 then -1000 else if u < nI nc then N (48 + clp u) else -1000)), τ) := by
  obtain ⟨hB, hN, hw, hl, hv, hf, hA⟩ := h
  have e90 : qev en (d + 1) 90 [.ref 11, .int u] τ = some (some (.int (if u < 0 then 0 else if nI nc ≤ u then 0 else 1)), τ) := by
    refine le_X5_hasCell en d 11 _ _ _ ?_
    rw [gd_true (by rfl), h9]
    by_cases a0 : u < 0
    · rw [if_pos a0, if_pos a0]
    rw [if_neg a0, if_neg a0]
    by_cases a1 : nI nc ≤ u
    · rw [if_pos a1, if_pos a1]
    · rw [if_neg a1, if_neg a1]
  refine le_X11_cell en (d + 1) _ _ _ ?_
  rw [if_neg hv, e90, bI_some]
  by_cases a0 : u < 0
  · rw [if_pos a0, if_pos a0]
    exact if_pos rfl
  rw [if_neg a0, if_neg a0]
  by_cases a1 : u < nI nc
  · obtain ⟨c, hc, rfl⟩ := nI_of a0
    have a2 := a1
    rw [n_LT (by omega) (by omega)] at a1
    rw [if_neg (Int32.not_le.mpr a2), if_pos a2, if_neg (by decide), hN, show clp (nI c) = c from n_clp (by omega), n_al, gd_true (n_in (by show 48 + c < 236; omega) (by decide)), n_cl (by show 48 + c < _; omega)]
  · rw [if_neg a1, if_pos (Int32.not_lt.mp a1)]
    exact if_pos rfl
theorem sw2L {α : Type} {z : Int} {A B E : Option α} : swL z [(0, A), (1, B)] E = if 0 = z then A else if 1 = z then B else E := rfl
theorem ow_two (hS : SV P w nc nl nt n N) {l : Nat} (hl : l < 4) : N (40 + l) = -1 ∨ ∃ t, t < nt ∧ N (40 + l) = nI t := by
  rcases hS.2.2.1 l hl with ⟨z, -⟩ | ⟨-, t, q, ht, z, -⟩
  · exact Or.inl z
  · exact Or.inr ⟨t, ht, z⟩
/-- what is told of a lock -/
def hdR (N : fI) (l : Nat) (z : Int) : Int32 := if z = 0 then (if 0 ≤ N (40 + l) then N (40 + l) else -2) else if z = 1 then N (44 + l) else -1
end QA

