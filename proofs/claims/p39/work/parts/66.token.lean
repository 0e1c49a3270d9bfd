/-! ONE TOKEN OF BOTH: kind (0 the end, 1 none, 2 a name, 3 a number, from 300 on a key word, else a sign), value, where it ends. -/
abbrev aT : Type := Nat × Nat × Nat
def aTok (B : Nat → Nat) (n p : Nat) : aT :=
  if n ≤ p then (0, 0, p)
  else if ltr (B p) = true then (if wnd wch B (n - p) p - p ≤ 8 then (kyd (wnu wch 128 B (n - p) p 0), wnu wch 128 B (n - p) p 0, wnd wch B (n - p) p) else (1, 0, wnd wch B (n - p) p))
  else if dgt (B p) = true then (if wnd dgt B (n - p) p - p ≤ 3 then (3, nnu B (n - p) p 0, wnd dgt B (n - p) p) else (1, 0, wnd dgt B (n - p) p))
  else (gkd (B p) (byt B n (p + 1)), 0, gnd (B p) (byt B n (p + 1)) p)
theorem kyd_ne {v : Nat} : kyd v ≠ 0 ∧ kyd v ≠ 1 ∧ kyd v ≠ 3 ∧ (kyd v = 2 ∨ 300 ≤ kyd v) := by
  unfold kyd
  split
  · omega
  · omega
theorem tokX_is {K : Nat → Int64} {B : Nat → Nat} {n p : Nat} (hK : ∀ i, i < 33 → K i = Int64.ofNat (KN.getD i 0)) : (tokX K B n p).1 = (aTok B n p).1 ∧ (tokX K B n p).2.2 = (aTok B n p).2.2 ∧ ((aTok B n p).1 ≠ 1 → (tokX K B n p).2.1 = Int64.ofNat (aTok B n p).2.1) ∧ (aTok B n p).2.1 < 128 ^ 8 := by
  unfold tokX aTok
  by_cases h0 : n ≤ p
  · rw [if_pos h0, if_pos h0]; exact ⟨rfl, rfl, fun _ => rfl, (by decide : 0 < 128 ^ 8)⟩
  · rw [if_neg h0, if_neg h0]
    by_cases hl : ltr (B p) = true
    · rw [if_pos hl, if_pos hl]
      by_cases h8 : wnd wch B (n - p) p - p ≤ 8
      · rw [if_pos h8]
        obtain ⟨e1, e2⟩ := wcd7 (B := B) (n - p) p 0 0 (by decide) (by omega)
        have e1 : wcd wch f7 B (n - p) p 0 = Int64.ofNat (wnu wch 128 B (n - p) p 0) := e1
        have e3 : wnu wch 128 B (n - p) p 0 < 128 ^ 8 := Nat.lt_of_lt_of_le e2 (Nat.pow_le_pow_right (by decide) (by omega))
        rw [e1]
        refine ⟨?_, rfl, fun _ => rfl, e3⟩
        show wkd K (Int64.ofNat (wnu wch 128 B (n - p) p 0)) (wnd wch B (n - p) p - p) = kyd (wnu wch 128 B (n - p) p 0)
        unfold wkd
        rw [if_pos h8, kwd_is hK e3]
      · rw [if_neg h8]
        refine ⟨?_, rfl, fun q => absurd rfl q, (by decide : 0 < 128 ^ 8)⟩
        show wkd K _ (wnd wch B (n - p) p - p) = 1
        unfold wkd
        rw [if_neg h8]
    · rw [if_neg hl, if_neg hl]
      by_cases hd : dgt (B p) = true
      · rw [if_pos hd, if_pos hd]
        by_cases h8 : wnd dgt B (n - p) p - p ≤ 3
        · rw [if_pos h8]
          obtain ⟨e1, -, e3⟩ := wcd10 (B := B) (n - p) p 0 0 (by decide) (by omega)
          have e1 : wcd dgt f10 B (n - p) p 0 = Int64.ofNat (nnu B (n - p) p 0) := e1
          refine ⟨?_, rfl, fun _ => e1, by show nnu B (n - p) p 0 < 128 ^ 8; omega⟩
          show nkd (wnd dgt B (n - p) p - p) = 3
          unfold nkd
          rw [if_pos h8]
        · rw [if_neg h8]
          refine ⟨?_, rfl, fun q => absurd rfl q, (by decide : 0 < 128 ^ 8)⟩
          show nkd (wnd dgt B (n - p) p - p) = 1
          unfold nkd
          rw [if_neg h8]
      · rw [if_neg hd, if_neg hd]
        exact ⟨rfl, rfl, fun _ => rfl, (by decide : 0 < 128 ^ 8)⟩
theorem sgn_rg {b : Nat} (h : sgn b = true) : 33 ≤ b ∧ b < 126 := by
  unfold sgn at h
  simp only [List.contains_cons, List.contains_nil, Bool.or_false, Bool.or_eq_true, beq_iff_eq] at h
  omega
