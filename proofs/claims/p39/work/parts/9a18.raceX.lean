/-! THE RUN: its races, the class's side; what both sides search alike: rcF. -/
abbrev clS (P : Nat → fI) (a b : Nat) : Prop := P 9 a = P 9 b ∧ ¬ volI P (P 9 a) = true ∧ (P 7 a = 2 ∨ P 7 b = 2 ∨ ¬ (P 7 a = 1 ↔ P 7 b = 1))
section CL
variable {en : pN} {d : Nat} {s : qS} {p a b : Nat} {P f : Nat → fI}
theorem l_c87 {x y : Int32} : L_X5_clash_87 en d x y s = some (some (.int (if x = y then 0 else 1)), s) := by
  refine le_X5_clash_87 en d _ _ _ _ ?_
  by_cases h : x = y
  · rw [if_pos h, if_pos h]
  · rw [if_neg h, if_neg h]
theorem x_clash (hp : lc p = 5) (h0 : s.1 p 7 = P 0 7) (h7 : s.1 (p + 7) = P 7) (h9 : s.1 (p + 9) = P 9) (ha : a < 100) (hb : b < 100) : qev en (d + 2) 104 [.ref p, .int (nI a), .int (nI b)] s = some (some (.int (bt (decide (clS P a b)))), s) := by
  refine le_X5_clash en (d + 1) _ _ _ _ _ ?_
  rw [gd_true hp, gd_true (n_in ha (by decide))]
  show gd (p_inB (nI b) 100 = true) _ = _
  rw [gd_true (n_in hb (by decide)), h7, h9, n_cl (by omega), n_cl (by omega), x_volI hp h0]
  show (if ¬ P 9 a = P 9 b then _ else if bt (decide _) = 0 then if P 7 a = 2 then _ else if P 7 b = 2 then _ else if ¬ P 7 a = 1 then L_X5_clash_76 en (d + 1) (P 7 b) 0 s else L_X5_clash_76 en (d + 1) (P 7 b) 1 s else _) = _
  by_cases q9 : P 9 a = P 9 b
  · rw [if_neg (fun z => z q9), ibd]
    by_cases qv : ¬ ((P 0 7 >>> (P 9 a &&& 31)) &&& (1 : Int32)) = 0
    · rw [if_pos qv, decide_eq_false (fun z => z.2.1 (decide_eq_true qv))]; rfl
    · have qv' : ¬ volI P (P 9 a) = true := fun z => qv (of_decide_eq_true z)
      rw [if_neg qv]
      by_cases a2 : P 7 a = 2
      · rw [if_pos a2, decide_eq_true ⟨q9, qv', Or.inl a2⟩]; rfl
      rw [if_neg a2]
      by_cases b2 : P 7 b = 2
      · rw [if_pos b2, decide_eq_true ⟨q9, qv', Or.inr (Or.inl b2)⟩]; rfl
      rw [if_neg b2]
      have k76 : ∀ x : Int32, L_X5_clash_76 en (d + 1) (P 7 b) x s = some (some (.int (if x = (if P 7 b = 1 then 1 else 0) then 0 else 1)), s) := by
        intro x
        refine le_X5_clash_76 en (d + 1) _ _ _ _ ?_
        rw [l_c87, l_c87]
        by_cases z : P 7 b = 1
        · rw [if_neg (fun w => w z), if_pos z]
        · rw [if_pos z, if_neg z]
      rw [k76, k76]
      by_cases a1 : P 7 a = 1
      · rw [if_neg (fun w => w a1)]
        by_cases b1 : P 7 b = 1
        · rw [decide_eq_false (fun z => z.2.2.elim a2 (fun z => z.elim b2 (fun z => z ⟨fun _ => b1, fun _ => a1⟩))), if_pos b1]; rfl
        · rw [decide_eq_true ⟨q9, qv', Or.inr (Or.inr (fun z => b1 (z.mp a1)))⟩, if_neg b1]; rfl
      · rw [if_pos a1]
        by_cases b1 : P 7 b = 1
        · rw [decide_eq_true ⟨q9, qv', Or.inr (Or.inr (fun z => a1 (z.mpr b1)))⟩, if_pos b1]; rfl
        · rw [decide_eq_false (fun z => z.2.2.elim a2 (fun z => z.elim b2 (fun z => z ⟨fun w => absurd w a1, fun w => absurd w b1⟩))), if_neg b1]; rfl
  · rw [if_pos q9, decide_eq_false (fun z => q9 z.1)]; rfl
end CL
section FR
variable {en : pN} {d : Nat} {s : qS} {H : fJ} {p len : Nat} {P f : Nat → fI}
abbrev rcX (P f : Nat → fI) (H : fJ) (i j : Nat) : Prop := (1 ≤ f 3 j ∧ f 3 j ≤ 4) ∧ (1 ≤ f 3 i ∧ f 3 i ≤ 4) ∧ ahd H j i = false ∧ clS P (clp (f 2 i)) (clp (f 2 j))
end FR

