/-! ALL TURNS, both sides: what is told of them. -/
abbrev EXx (P : Nat → fI) (w nc nl nt n p : Nat) (fw : Bool) (X : xT) (τ : qS) : Prop := ∃ (ρ : qS) (F N G : fI) (b : Int32), τ = mS ρ 71 F N b G ∧ xcF P w nc nl nt p fw X ρ F ∧ SV P w nc nl nt n N ∧ N 235 = 0
section EX
variable {en : pN} {d w nc nl nt n p : Nat} {P : Nat → fI} {τ σ : qS} {X : xT} {fw : Bool} {a q : Int32}
theorem sw6 {α : Type} {z : Int} {A B C D E F G : Option α} : swI z 0 [A, B, C, D, E, F] G = if z = 0 then A else if z = 1 then B else if z = 2 then C else if z = 3 then D else if z = 4 then E else if z = 5 then F else G := rfl
theorem x_hasC1 {t c m : Nat} (ht : lc t = 5) (h : τ.1 t 9 = nI m) (hc : c < m) (hm : m < 100) : qev en (d + 1) 90 [.ref t, .int (nI c)] τ = some (some (.int 1), τ) := by
  refine le_X5_hasCell en _ _ _ _ _ ?_
  rw [gd_true ht, h, if_neg (nI_pos (by omega)), if_neg (by rw [n_LE (by omega) (by omega)]; omega)]
theorem x_hasC0 {t m : Nat} (ht : lc t = 5) (h : τ.1 t 9 = nI m) (hm : m < 100) (hc : a < 0 ∨ ∃ c, c < 2 ^ 31 ∧ a = nI c ∧ m ≤ c) : qev en (d + 1) 90 [.ref t, .int a] τ = some (some (.int 0), τ) := by
  refine le_X5_hasCell en _ _ _ _ _ ?_
  rw [gd_true ht, h]
  rcases hc with hc | ⟨c, h1, rfl, h2⟩
  · rw [if_pos hc]
  · rw [if_neg (nI_pos h1), if_pos (by rw [n_LE (by omega) h1]; exact h2)]
end EX

