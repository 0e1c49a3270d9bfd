/-! THE RUN, the model's side: what holds of it between calls; a turn. -/
section TM
variable {en : pN} {d : Nat} {σ τ : qS} {X : fJ} {t ch w nc nl nt n len : Nat} {P g : Nat → fI} {K W F s y gg N R : fI} {D : Int64} {u v : Int32}
theorem rdl_len (hP : PV P nc nl nt n) (hS : SV P w nc nl nt n N) : (rdl P w N nt nt).length ≤ 40 := by
  have ht4 := hP.2.2.1.2
  have hlen : ∀ t, t ≤ nt → (rdl P w N nt t).length ≤ 10 * t := by
    intro t
    induction t with
    | zero => intro _; exact Nat.le_refl _
    | succ t ih =>
      intro ht
      have h1 := ih (by omega)
      have h2 := rdT_len (ch_le hP hS (show t < nt by omega))
      show (rdl P w N nt t ++ rdT P w N nt t).length ≤ _
      rw [List.length_append]
      omega
  have := hlen nt (Nat.le_refl _)
  omega
end TM

