/-! THE READER: the program that was read, as a program of both. -/
section RPF
variable {en : pN} {d d' k i n N j r v u m nc nl nt : Nat} {V cl th K : Nat → Nat} {U : Nat → Nat → Nat} {bl : Nat → List Nat} {s s' t t' : qS} {f f' g h2 : fI} {nn nn' : Int32}
theorem hdK_t (h : u < 4) : hdK f g h2 u = f u := if_pos h
theorem hdK_c : hdK f g h2 (4 + 2 * i) = g i := by
  unfold hdK
  rw [if_neg (by omega), if_pos (by omega), show (4 + 2 * i - 4) / 2 = i by omega]
theorem hdK_o : hdK f g h2 (5 + 2 * i) = h2 i := by
  unfold hdK
  rw [if_neg (by omega), if_neg (by omega), show (5 + 2 * i - 4) / 2 = i by omega]
end RPF

