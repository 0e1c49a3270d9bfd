/-! KEY WORDS. -/
/-- the key words' numbers, base 128, in the class's order -/
def KN : List Nat := [1634547, 1602148, 228323819, 4049845613035, 251163892, 251164133, 526729365452396, 31114951028, 224130286, 27594043877, 219706996, 3364007541108, 209221228, 30815303289, 13542, 32163657317, 213596645, 209286764, 66920014801434213, 4013887680740, 29196366578, 222018159, 3362136816883, 29741658866, 1798393, 230521332, 29204443763, 215512306, 27344319204, 32184727399, 32148978291, 219772516, 31115276779]
/-- is it a key word? -/
def isKey (v : Nat) : Bool := KN.contains v
theorem nbd {v c : Nat} : (v == c) = decide (v = c) := rfl
theorem key8 {v c : Nat} (hv : v < 128 ^ 8) (hc : c < 128 ^ 8) : Int64.ofNat (w8 8 v) = Int64.ofNat (w8 8 c) ↔ v = c := by
  have a : w8 8 v < 256 ^ 8 := w8_lt 8
  have b : w8 8 c < 256 ^ 8 := w8_lt 8
  rw [i64_inj (by omega) (by omega)]
  exact ⟨w8_inj 8 v c hv hc, fun h => by rw [h]⟩
theorem key_step {v c : Nat} {C : Int64} {T X R : Option qR} (hv : v < 128 ^ 8) (hc : c < 128 ^ 8) (hC : C = Int64.ofNat (w8 8 c)) (hT : v = c → T = R) (hX : v ≠ c → X = R) : (if lg_cmp (Int64.ofNat (w8 8 v)) C = (0 : Int32) then T else X) = R := by
  subst hC
  by_cases h : v = c
  · rw [if_pos (lgc0.mpr ((key8 hv hc).mpr h))]
    exact hT h
  · rw [if_neg (fun z => h ((key8 hv hc).mp (lgc0.mp z)))]
    exact hX h
theorem key_last {v c : Nat} {C : Int64} {T X R : Option qR} (hv : v < 128 ^ 8) (hc : c < 128 ^ 8) (hC : C = Int64.ofNat (w8 8 c)) (hT : v = c → T = R) (hX : v ≠ c → X = R) : (if ¬ lg_cmp (Int64.ofNat (w8 8 v)) C = (0 : Int32) then X else T) = R := by
  subst hC
  by_cases h : v = c
  · rw [if_neg (not_not_intro (lgc0.mpr ((key8 hv hc).mpr h)))]
    exact hT h
  · rw [if_pos (fun z => h ((key8 hv hc).mp (lgc0.mp z)))]
    exact hX h
set_option maxRecDepth 100000 in
theorem keys_s0 : ∀ i, i < 33 → s0.2.1 3 i = Int64.ofNat (KN.getD i 0) := by decide +kernel
theorem KN_lt : ∀ c ∈ KN, c < 128 ^ 8 := by decide
theorem kwd_go {K : Nat → Int64} {v : Nat} (hK : ∀ i, i < 33 → K i = Int64.ofNat (KN.getD i 0)) (hv : v < 128 ^ 8) : ∀ k i : Nat, i + k = 33 → kwd K (Int64.ofNat v) k i = (if (KN.drop i).contains v = true then 300 + (i + (KN.drop i).idxOf v) else 2) := by
  intro k
  induction k with
  | zero =>
    intro i hi
    have : KN.drop i = [] := List.drop_eq_nil_of_le (by show 33 ≤ i; omega)
    rw [this]
    rfl
  | succ k ih =>
    intro i hi
    have hl : i < KN.length := by show i < 33; omega
    have hc := List.drop_eq_getElem_cons hl
    have hg : KN.getD i 0 = KN[i] := by rw [List.getD_eq_getElem?_getD, List.getElem?_eq_getElem hl]; rfl
    have hb : KN[i] < 128 ^ 8 := KN_lt _ (List.getElem_mem hl)
    unfold kwd
    rw [hK i (by omega), hg, hc, List.contains_cons, List.idxOf_cons, ih (i + 1) (by omega)]
    by_cases h : v = KN[i]
    · rw [if_pos ((i64_inj (by omega) (by omega)).mpr h.symm), if_pos (by rw [h]; simp)]
      simp [h]
    · rw [if_neg (fun z => h ((i64_inj (by omega) (by omega)).mp z).symm), beq_false_of_ne h, Bool.false_or, beq_false_of_ne (fun z => h z.symm)]
      split
      · simp only [cond_false]; omega
      · rfl
/-- a word's kind by its number -/
def kyd (v : Nat) : Nat := if isKey v = true then 300 + KN.idxOf v else 2
theorem kwd_is {K : Nat → Int64} {v : Nat} (hK : ∀ i, i < 33 → K i = Int64.ofNat (KN.getD i 0)) (hv : v < 128 ^ 8) : kwd K (Int64.ofNat v) 33 0 = kyd v := by
  rw [kwd_go hK hv 33 0 rfl]
  unfold kyd isKey
  rw [List.drop_zero, Nat.zero_add]
