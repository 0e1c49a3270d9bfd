/-! THE READER: an expression on both sides: where both stand; the head of an operand. -/
/-- the two places of nodes -/
abbrev plcQ (lw : Bool) (q bs : Nat) : Prop := (q = 7 ∧ bs = 0 ∧ lw = false) ∨ (q = 61 ∧ bs = 400 ∧ lw = true)
section EXH
variable {en : pN} {d d' k K q bs u n i i' ct ct' m m' m0 c c' c0 k' nc nl nt a b z dp F p : Nat} {lw : Bool} {V cl : Nat → Nat} {U : Nat → Nat → Nat} {pl pl' : Nat → Nat} {s s' s'' t t' t'' : qS} {B : Nat → Nat} {O Q O' Q' : fI} {v w v1 v2 v3 v4 v5 : Int32}
theorem plcQ.qq (h : plcQ lw q bs) : q = 7 ∨ q = 61 := by
  rcases h with h | h
  · exact Or.inl h.1
  · exact Or.inr h.1
theorem dX_fr (h : dX s F p) (h9 : s'.1 1 9 = s.1 1 9) (h10 : s'.1 1 10 = s.1 1 10) (h11 : s'.1 65 11 = s.1 65 11) (h12 : s'.1 65 12 = s.1 65 12) : dX s' F p := by
  rcases h with ⟨a, b, c, e⟩ | ⟨a, b, c, e⟩
  · exact Or.inl ⟨h9.trans a, h11.trans b, h12.trans c, e⟩
  · exact Or.inr ⟨h9.trans a, h11.trans b, h10.trans c, e⟩
theorem aTok_lt : (aTok B n p).1 < 400 := by
  unfold aTok
  repeat' split
  · show 0 < 400
    decide
  · show kyd _ < 400
    unfold kyd
    have h33 : KN.length = 33 := rfl
    split
    · have := List.idxOf_le_length (a := wnu wch 128 B (n - p) p 0) (l := KN)
      omega
    · decide
  · show 1 < 400
    decide
  · show 3 < 400
    decide
  · show 1 < 400
    decide
  · show gkd _ _ < 400
    unfold gkd
    split
    · rename_i hs
      have := sgn_rg hs
      split <;> omega
    · decide
theorem tkK_lt (hi : i < tkL B n) : tkK B n i < 400 := by
  obtain ⟨-, -, h, -⟩ := aL_next (n + 1) 0 i _ (by omega) (by omega) (tk_at (B := B) hi)
  show (tkN B n i).2.1 < 400
  rw [h]
  exact aTok_lt
/-! the model behind a fault -/
/-- a token's kind, as the model has it -/
theorem kdM_v {x : Nat} (hx : x < 400) : kdM x < 400 ∧ (kdM x = 1 ↔ x = 1 ∨ x = 2 ∨ 300 ≤ x) ∧ (kdM x = 2 ↔ x = 3) ∧ ∀ a, 4 ≤ a → a < 300 → (kdM x = a ↔ x = a) := by
  unfold kdM
  by_cases q : x = 2 ∨ 300 ≤ x
  · rw [if_pos q]; exact ⟨by omega, by omega, by omega, fun a h1 h2 => by omega⟩
  · rw [if_neg q]
    by_cases q3 : x = 3
    · rw [if_pos q3]; exact ⟨by omega, by omega, by omega, fun a h1 h2 => by omega⟩
    · rw [if_neg q3]; exact ⟨by omega, by omega, by omega, fun a h1 h2 => by omega⟩
/-- the class's operand, behind its head -/
noncomputable abbrev oneB (en : pN) (d : Nat) (dp : Nat) (s : qS) : Option qR := if ¬ (s.1 1 9) = (40 : Int32) then bI (qev en d 136 [.ref 65] s) (fun w11 s12 => if w11 = (0 : Int32) then some (none, s12) else bV (qev en d 140 [.ref 65, .int (s.1 1 9), .int (nI dp)] s12) (fun s16 => some (none, s16))) else bV (qev en d 167 [.ref 1] s) (fun s19 => bV (qev en d 134 [.ref 65, .int (0 : Int32), .int (nI dp + (1 : Int32))] s19) (fun s22 => bV (qev en d 115 [.ref 65, .int (41 : Int32)] s22) (fun s25 => some (none, s25))))
theorem begB_300 {x : Nat} (h : begB lw x = true) (hx : 300 ≤ x) : lw = true ∧ 328 ≤ x ∧ x ≤ 332 := by
  unfold begB at h
  simp only [Bool.or_eq_true, Bool.and_eq_true, decide_eq_true_eq] at h
  rcases h with ((((h | h) | h) | h) | h) | h
  · exact ⟨h.1, h.2.1, h.2.2⟩
  all_goals omega
end EXH

