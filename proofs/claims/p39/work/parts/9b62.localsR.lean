/-! THE READER: the local at hand, on both sides. -/
section LCR
variable {en : pN} {d d' v k i u c n nc nl nt : Nat} {V cl : Nat → Nat} {U : Nat → Nat → Nat} {s t : qS} {B : Nat → Nat}
theorem w8_of {a b : Nat} (ha : a < 128 ^ 8) (hb : b < 128 ^ 8) : Int64.ofNat (w8 8 a) = Int64.ofNat (w8 8 b) ↔ a = b := by
  have h1 := @w8_lt a 8
  have h2 := @w8_lt b 8
  rw [i64_inj (by omega) (by omega)]
  exact ⟨fun h => w8_inj 8 a b ha hb h, fun h => by rw [h]⟩
theorem id_of {a b : Nat} (ha : a < 128 ^ 8) (hb : b < 128 ^ 8) : Int64.ofNat (id a) = Int64.ofNat (id b) ↔ a = b := by
  have h1 : a < 2 ^ 64 := by omega
  have h2 : b < 2 ^ 64 := by omega
  exact i64_inj h1 h2
theorem tk_val (hi : i < tkL B n) : (tkN B n i).2.2.1 < 128 ^ 8 := by
  obtain ⟨-, -, h, -⟩ := aL_next (n + 1) 0 i _ (by omega) (by omega) (tk_at (B := B) hi)
  obtain ⟨-, -, -, e⟩ := tokX_is (K := fun i => Int64.ofNat (KN.getD i 0)) (B := B) (n := n) (p := (tkN B n i).1) (fun _ _ => rfl)
  rw [h]
  exact e
end LCR

