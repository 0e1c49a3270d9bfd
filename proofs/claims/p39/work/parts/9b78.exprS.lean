/-! THE READER: an expression on both sides: the signs between operands. -/
/-- a token's rank as a sign; 0 is none -/
def sgv (y r : Nat) : Prop := (lvV y = -1 ∧ opV y = -1 ∧ r = 0) ∨ ∃ K, 4 ≤ K ∧ K ≤ 14 ∧ opV y = nI K ∧ rkM K = r ∧ 1 ≤ r ∧ r ≤ 5 ∧ lvV y = nI (r - 1) ∧ 38 ≤ y ∧ y < 256 ∧ ndR 0 y 0 K 0
/-- what may follow a level: a sign of a lesser one, or a second test -/
abbrev lvT (l k h : Nat) (pl : Nat → Nat) (y : Nat) : Prop := ∃ r, sgv y r ∧ (r ≤ l ∨ (r = 3 ∧ ∃ j, k ≤ j ∧ j < k + h ∧ rkM (pl j) = 3))
/-- what stands under a level binds no stronger -/
abbrev topOK (l k : Nat) (pl : Nat → Nat) : Prop := k = 0 ∨ pl (k - 1) = 22 ∨ rkM (pl (k - 1)) ≤ l
section EXS
variable {en : pN} {d d' k K q bs u n i i' ct ct' m m' m0 c c' c0 k' nc nl nt a b z h dp F p x j r l l0 y : Nat} {lw : Bool} {V cl cl' : Nat → Nat} {U U' : Nat → Nat → Nat} {pl pl' : Nat → Nat} {s s' s'' t t' t'' : qS} {B : Nat → Nat} {O Q M W v w v1 v2 v3 v4 v5 a2 : Int32}
theorem sgv_of (y : Nat) : ∃ r, sgv y r := by
  rcases sg_all y with ⟨h1, h2⟩ | ⟨K, h1, h2, h3, h4, h5, h6, h7, h8, h9⟩
  · exact ⟨0, Or.inl ⟨h1, h2, rfl⟩⟩
  · exact ⟨rkM K, Or.inr ⟨K, h1, h2, h3, rfl, h4, h5, h6, h8, h7, h9⟩⟩
theorem stC_go (h1 : ∀ j, a ≤ j → j < a + h → ¬ (rkM (pl j) < r ∨ pl j = 22)) : stC pl r (a + h) = stC pl r a := by
  induction h with
  | zero => rfl
  | succ h ih =>
    show (if rkM (pl (a + h)) < r ∨ pl (a + h) = 22 then a + h + 1 else stC pl r (a + h)) = _
    rw [if_neg (h1 (a + h) (by omega) (by omega))]
    exact ih (fun j j1 j2 => h1 j j1 (by omega))
theorem stC_st (h : k = 0 ∨ pl (k - 1) = 22 ∨ rkM (pl (k - 1)) < r) : stC pl r k = k := by
  cases k with
  | zero => rfl
  | succ k =>
    show (if rkM (pl k) < r ∨ pl k = 22 then k + 1 else stC pl r k) = _
    rcases h with h | h | h
    · omega
    · exact if_pos (Or.inr h)
    · exact if_pos (Or.inl h)
theorem epC_st (h : k = 0 ∨ (pl (k - 1) ≠ 2 ∧ pl (k - 1) ≠ 3)) : epC pl k = k := by
  cases k with
  | zero => rfl
  | succ k =>
    show (if pl k = 2 ∨ pl k = 3 then epC pl k else k + 1) = _
    rcases h with h | h
    · omega
    · exact if_neg (fun z => z.elim h.1 h.2)
theorem topOK_e (h : topOK l k pl) (hl : l ≤ 5) : epC pl k = k := by
  refine epC_st ?_
  rcases h with h | h | h
  · exact Or.inl h
  · exact Or.inr ⟨by omega, by omega⟩
  · refine Or.inr ⟨fun z => ?_, fun z => ?_⟩
    · rw [z] at h; have : rkM 2 = 6 := rfl; omega
    · rw [z] at h; have : rkM 3 = 6 := rfl; omega
/-! the model at a sign -/
theorem opV_kd (hx : x < 400) (h1 : x ≠ 1) : opV (kdM x) = opV x := by
  unfold kdM
  by_cases q : x = 2 ∨ 300 ≤ x
  · rw [if_pos q]
    have g : ∀ y, y = 1 ∨ y = 2 ∨ 300 ≤ y → opV y = -1 := fun y hy => by
      unfold opV
      repeat rw [if_neg (by omega)]
    rw [g 1 (by omega), g x (by omega)]
  · rw [if_neg q]
    by_cases q3 : x = 3
    · rw [if_pos q3, q3]; rfl
    · rw [if_neg q3]
end EXS

