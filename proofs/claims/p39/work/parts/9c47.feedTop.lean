/-! THE TOP: text fed, text ended. -/
section TOPI
variable {en : pN} {d d' k i n N j r v u m nc nl nt key a w p len : Nat} {V cl th K : Nat → Nat} {U : Nat → Nat → Nat} {bl : Nat → List Nat} {go : Nat → Bool} {s s' t t' τ τ' σ σ' : qS} {e x g y b o o' e' x' g' y' fw : Bool} {z a1 a2 a3 a4 a5 : Int32} {P P2 P3 : Nat → fI} {X : xT} {F M T : fI} {f f' : Nat → fI}
theorem sh20 : ∀ i : Fin 20, (24 : Int32) - (8 : Int32) * (nI i.1 - nI i.1 / (4 : Int32) * (4 : Int32)) = nI (24 - 8 * (i.1 % 4)) := by decide +kernel
theorem ap2 {v : Int32} : (apS σ n v).1 2 j = if j = n + 3 then byX v 0 else if j = n + 2 then byX v 8 else if j = n + 1 then byX v 16 else if j = n then byX v 24 else σ.1 2 j := by
  rw [apS_I, if_neg (fun z => absurd z.1 (by decide))]
  simp only [true_and]
theorem ap_o {v : Int32} (h1 : a ≠ 1) (h2 : a ≠ 2) : (apS σ n v).1 a = σ.1 a := by
  funext j
  rw [apS_I, if_neg (fun z => h1 z.1), if_neg (fun z => h2 z.1), if_neg (fun z => h2 z.1), if_neg (fun z => h2 z.1), if_neg (fun z => h2 z.1)]
theorem fd_2 : (fdS s n a1 a2 a3 a4 a5).2 = s.2 := by
  unfold fdS
  exact Prod.ext (by rw [apS_J, apS_J, apS_J, apS_J, apS_J]) (by rw [apS_R, apS_R, apS_R, apS_R, apS_R])
theorem fd_len : (fdS s n a1 a2 a3 a4 a5).1 1 5 = nI (n + 20) := by
  unfold fdS
  rw [apS_len]
theorem fd_o (h1 : a ≠ 1) (h2 : a ≠ 2) : (fdS s n a1 a2 a3 a4 a5).1 a = s.1 a := by
  unfold fdS
  rw [ap_o h1 h2, ap_o h1 h2, ap_o h1 h2, ap_o h1 h2, ap_o h1 h2]
theorem fd_lo (hj : j < n) : (fdS s n a1 a2 a3 a4 a5).1 2 j = s.1 2 j := by
  unfold fdS
  rw [ap2, if_neg (by omega), if_neg (by omega), if_neg (by omega), if_neg (by omega), ap2, if_neg (by omega), if_neg (by omega), if_neg (by omega), if_neg (by omega), ap2, if_neg (by omega), if_neg (by omega), if_neg (by omega), if_neg (by omega), ap2, if_neg (by omega), if_neg (by omega), if_neg (by omega), if_neg (by omega), ap2, if_neg (by omega), if_neg (by omega), if_neg (by omega), if_neg (by omega)]
theorem fd_hi (hi : i < 20) : (fdS s n a1 a2 a3 a4 a5).1 2 (n + i) = (vM a1 a2 a3 a4 a5 i >>> (((24 : Int32) - ((8 : Int32) * (nI i - nI i / (4 : Int32) * (4 : Int32)))) &&& 31)).toInt8.toInt32 := by
  rw [sh20 ⟨i, hi⟩]
  unfold fdS
  have : i = 0 ∨ i = 1 ∨ i = 2 ∨ i = 3 ∨ i = 4 ∨ i = 5 ∨ i = 6 ∨ i = 7 ∨ i = 8 ∨ i = 9 ∨ i = 10 ∨ i = 11 ∨ i = 12 ∨ i = 13 ∨ i = 14 ∨ i = 15 ∨ i = 16 ∨ i = 17 ∨ i = 18 ∨ i = 19 := by omega
  rcases this with rfl | rfl | rfl | rfl | rfl | rfl | rfl | rfl | rfl | rfl | rfl | rfl | rfl | rfl | rfl | rfl | rfl | rfl | rfl | rfl <;> simp [ap2, byX, vM, nI, Nat.add_assoc]
end TOPI

