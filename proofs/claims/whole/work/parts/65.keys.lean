/-! KEY WORDS. -/
/-- the key words' numbers, base 128, in the class's order -/
def KN : List Nat := [1634547, 1602148, 228323819, 4049845613035, 251163892, 251164133, 526729365452396, 31114951028, 224130286, 27594043877, 219706996, 3364007541108, 209221228, 30815303289, 13542, 32163657317, 213596645, 209286764, 66920014801434213, 4013887680740, 29196366578, 222018159, 3362136816883, 29741658866, 1798393, 230521332, 29204443763, 215512306, 27344319204, 32184727399, 32148978291, 219772516, 31115276779]
/-- is it a key word? -/
def isKey (v : Nat) : Bool := KN.contains v
theorem nbd {v c : Nat} : (v == c) = decide (v = c) := rfl
theorem key8 {v c : Nat} (hv : v < 128 ^ 8) (hc : c < 128 ^ 8) : Int64.ofNat (w8 8 v) = Int64.ofNat (w8 8 c) ↔ v = c := by
  have a : w8 8 v < 256 ^ 8 := w8_lt 8
  have b : w8 8 c < 256 ^ 8 := w8_lt 8
  rw [i64_inj (by omega) (by omega)]
  exact ⟨w8_inj 8 v c hv hc, fun h => by rw [h]⟩
theorem key_step {v c : Nat} {C : Int64} {T X R : Option qR} (hv : v < 128 ^ 8) (hc : c < 128 ^ 8) (hC : C = Int64.ofNat (w8 8 c)) (hT : v = c → T = R) (hX : v ≠ c → X = R) : (if lg_cmp (Int64.ofNat (w8 8 v)) C = (0 : Int32) then T else X) = R := by
  subst hC
  by_cases h : v = c
  · rw [if_pos (lgc0.mpr ((key8 hv hc).mpr h))]
    exact hT h
  · rw [if_neg (fun z => h ((key8 hv hc).mp (lgc0.mp z)))]
    exact hX h
theorem key_last {v c : Nat} {C : Int64} {T X R : Option qR} (hv : v < 128 ^ 8) (hc : c < 128 ^ 8) (hC : C = Int64.ofNat (w8 8 c)) (hT : v = c → T = R) (hX : v ≠ c → X = R) : (if ¬ lg_cmp (Int64.ofNat (w8 8 v)) C = (0 : Int32) then X else T) = R := by
  subst hC
  by_cases h : v = c
  · rw [if_neg (not_not_intro (lgc0.mpr ((key8 hv hc).mpr h)))]
    exact hT h
  · rw [if_pos (fun z => h ((key8 hv hc).mp (lgc0.mp z)))]
    exact hX h
theorem m_res1 {en : pN} {d v : Nat} {s : qS} : L_X12_isReserved_181 en d (Int64.ofNat (w8 8 v)) 1 s = some (some (.int 1), s) := le_X12_isReserved_181 en d _ 1 s _ (if_pos (by decide))
theorem m_res0 {en : pN} {d v : Nat} {s : qS} (hv : v < 128 ^ 8) : L_X12_isReserved_181 en d (Int64.ofNat (w8 8 v)) 0 s = some (some (.int (tI (decide (v = 3362136816883) || decide (v = 29741658866) || decide (v = 1798393) || decide (v = 230521332) || decide (v = 29204443763) || decide (v = 215512306) || decide (v = 27344319204) || decide (v = 32184727399) || decide (v = 32148978291) || decide (v = 219772516) || decide (v = 31115276779)))), s) := by
  refine le_X12_isReserved_181 en d _ 0 s _ ?_
  rw [if_neg (by decide)]
  refine key_step (c := 3362136816883) hv (by decide) (by decide +kernel) (fun h => by subst h; rfl) fun n0 => ?_
  refine key_step (c := 29741658866) hv (by decide) (by decide +kernel) (fun h => by subst h; rfl) fun n1 => ?_
  refine key_step (c := 1798393) hv (by decide) (by decide +kernel) (fun h => by subst h; rfl) fun n2 => ?_
  refine key_step (c := 230521332) hv (by decide) (by decide +kernel) (fun h => by subst h; rfl) fun n3 => ?_
  refine key_step (c := 29204443763) hv (by decide) (by decide +kernel) (fun h => by subst h; rfl) fun n4 => ?_
  refine key_step (c := 215512306) hv (by decide) (by decide +kernel) (fun h => by subst h; rfl) fun n5 => ?_
  refine key_step (c := 27344319204) hv (by decide) (by decide +kernel) (fun h => by subst h; rfl) fun n6 => ?_
  refine key_step (c := 32184727399) hv (by decide) (by decide +kernel) (fun h => by subst h; rfl) fun n7 => ?_
  refine key_step (c := 32148978291) hv (by decide) (by decide +kernel) (fun h => by subst h; rfl) fun n8 => ?_
  refine key_step (c := 219772516) hv (by decide) (by decide +kernel) (fun h => by subst h; rfl) fun n9 => ?_
  refine key_last (c := 31115276779) hv (by decide) (by decide +kernel) (fun h => by subst h; rfl) fun n10 => ?_
  simp only [decide_eq_false n0, decide_eq_false n1, decide_eq_false n2, decide_eq_false n3, decide_eq_false n4, decide_eq_false n5, decide_eq_false n6, decide_eq_false n7, decide_eq_false n8, decide_eq_false n9, decide_eq_false n10]
  rfl
theorem m_isReserved {en : pN} {d v : Nat} {s : qS} (hv : v < 128 ^ 8) : qev en (d + 1) 253 [.long (Int64.ofNat (w8 8 v))] s = some (some (.int (tI (isKey v))), s) := by
  refine le_X12_isReserved en d _ s _ ?_
  refine key_step (c := 209286764) hv (by decide) (by decide +kernel) (fun h => by subst h; exact m_res1) fun n0 => ?_
  refine key_step (c := 228323819) hv (by decide) (by decide +kernel) (fun h => by subst h; exact m_res1) fun n1 => ?_
  refine key_step (c := 222018159) hv (by decide) (by decide +kernel) (fun h => by subst h; exact m_res1) fun n2 => ?_
  refine key_step (c := 1634547) hv (by decide) (by decide +kernel) (fun h => by subst h; exact m_res1) fun n3 => ?_
  refine key_step (c := 1602148) hv (by decide) (by decide +kernel) (fun h => by subst h; exact m_res1) fun n4 => ?_
  refine key_step (c := 251163892) hv (by decide) (by decide +kernel) (fun h => by subst h; exact m_res1) fun n5 => ?_
  refine key_step (c := 251164133) hv (by decide) (by decide +kernel) (fun h => by subst h; exact m_res1) fun n6 => ?_
  refine key_step (c := 224130286) hv (by decide) (by decide +kernel) (fun h => by subst h; exact m_res1) fun n7 => ?_
  refine key_step (c := 219706996) hv (by decide) (by decide +kernel) (fun h => by subst h; exact m_res1) fun n8 => ?_
  refine key_step (c := 209221228) hv (by decide) (by decide +kernel) (fun h => by subst h; exact m_res1) fun n9 => ?_
  refine key_step (c := 13542) hv (by decide) (by decide +kernel) (fun h => by subst h; exact m_res1) fun n10 => ?_
  refine key_step (c := 213596645) hv (by decide) (by decide +kernel) (fun h => by subst h; exact m_res1) fun n11 => ?_
  refine key_step (c := 27594043877) hv (by decide) (by decide +kernel) (fun h => by subst h; exact m_res1) fun n12 => ?_
  refine key_step (c := 29196366578) hv (by decide) (by decide +kernel) (fun h => by subst h; exact m_res1) fun n13 => ?_
  refine key_step (c := 31114951028) hv (by decide) (by decide +kernel) (fun h => by subst h; exact m_res1) fun n14 => ?_
  refine key_step (c := 30815303289) hv (by decide) (by decide +kernel) (fun h => by subst h; exact m_res1) fun n15 => ?_
  refine key_step (c := 32163657317) hv (by decide) (by decide +kernel) (fun h => by subst h; exact m_res1) fun n16 => ?_
  refine key_step (c := 4013887680740) hv (by decide) (by decide +kernel) (fun h => by subst h; exact m_res1) fun n17 => ?_
  refine key_step (c := 4049845613035) hv (by decide) (by decide +kernel) (fun h => by subst h; exact m_res1) fun n18 => ?_
  refine key_step (c := 3364007541108) hv (by decide) (by decide +kernel) (fun h => by subst h; exact m_res1) fun n19 => ?_
  refine key_step (c := 526729365452396) hv (by decide) (by decide +kernel) (fun h => by subst h; exact m_res1) fun n20 => ?_
  refine key_last (c := 66920014801434213) hv (by decide) (by decide +kernel) (fun h => by subst h; exact m_res1) fun n21 => ?_
  rw [m_res0 hv]
  have e : isKey v = (decide (v = 3362136816883) || decide (v = 29741658866) || decide (v = 1798393) || decide (v = 230521332) || decide (v = 29204443763) || decide (v = 215512306) || decide (v = 27344319204) || decide (v = 32184727399) || decide (v = 32148978291) || decide (v = 219772516) || decide (v = 31115276779)) := by
    have h : isKey v = KN.contains v := rfl
    rw [h]
    unfold KN
    simp only [List.contains_cons, List.contains_nil, beq_false_of_ne n0, beq_false_of_ne n1, beq_false_of_ne n2, beq_false_of_ne n3, beq_false_of_ne n4, beq_false_of_ne n5, beq_false_of_ne n6, beq_false_of_ne n7, beq_false_of_ne n8, beq_false_of_ne n9, beq_false_of_ne n10, beq_false_of_ne n11, beq_false_of_ne n12, beq_false_of_ne n13, beq_false_of_ne n14, beq_false_of_ne n15, beq_false_of_ne n16, beq_false_of_ne n17, beq_false_of_ne n18, beq_false_of_ne n19, beq_false_of_ne n20, beq_false_of_ne n21, Bool.false_or, Bool.or_false]
    simp only [nbd, Bool.or_assoc, Bool.or_comm, Bool.or_left_comm]
  rw [e]
set_option maxRecDepth 100000 in
theorem keys_s0 : ∀ i, i < 33 → s0.2.1 3 i = Int64.ofNat (KN.getD i 0) := by decide +kernel
theorem KN_lt : ∀ c ∈ KN, c < 128 ^ 8 := by decide
theorem kwd_go {K : Nat → Int64} {v : Nat} (hK : ∀ i, i < 33 → K i = Int64.ofNat (KN.getD i 0)) (hv : v < 128 ^ 8) : ∀ k i : Nat, i + k = 33 → kwd K (Int64.ofNat v) k i = (if (KN.drop i).contains v = true then 300 + (i + (KN.drop i).idxOf v) else 2) := by
  intro k
  induction k with
  | zero =>
    intro i hi
    have : KN.drop i = [] := List.drop_eq_nil_of_le (by show 33 ≤ i; omega)
    rw [this]
    rfl
  | succ k ih =>
    intro i hi
    have hl : i < KN.length := by show i < 33; omega
    have hc := List.drop_eq_getElem_cons hl
    have hg : KN.getD i 0 = KN[i] := by rw [List.getD_eq_getElem?_getD, List.getElem?_eq_getElem hl]; rfl
    have hb : KN[i] < 128 ^ 8 := KN_lt _ (List.getElem_mem hl)
    unfold kwd
    rw [hK i (by omega), hg, hc, List.contains_cons, List.idxOf_cons, ih (i + 1) (by omega)]
    by_cases h : v = KN[i]
    · rw [if_pos ((i64_inj (by omega) (by omega)).mpr h.symm), if_pos (by rw [h]; simp)]
      simp [h]
    · rw [if_neg (fun z => h ((i64_inj (by omega) (by omega)).mp z).symm), beq_false_of_ne h, Bool.false_or, beq_false_of_ne (fun z => h z.symm)]
      split
      · simp only [cond_false]; omega
      · rfl
/-- a word's kind by its number -/
def kyd (v : Nat) : Nat := if isKey v = true then 300 + KN.idxOf v else 2
theorem kwd_is {K : Nat → Int64} {v : Nat} (hK : ∀ i, i < 33 → K i = Int64.ofNat (KN.getD i 0)) (hv : v < 128 ^ 8) : kwd K (Int64.ofNat v) 33 0 = kyd v := by
  rw [kwd_go hK hv 33 0 rfl]
  unfold kyd isKey
  rw [List.drop_zero, Nat.zero_add]
theorem m_isName {en : pN} {d v : Nat} {s : qS} (hv : v < 128 ^ 8) (h5 : s.2.1 151 5 = Int64.ofNat (w8 8 v)) (h3 : s.1 151 3 = 1) : qev en (d + 2) 254 [.ref 151] s = some (some (.int (tI (!isKey v))), s) := by
  refine le_X12_isName en (d + 1) s _ ?_
  rw [h3, if_neg (not_not_intro rfl), h5, m_isReserved hv, bI_some]
  cases isKey v <;> rfl
theorem m_isName0 {en : pN} {d : Nat} {s : qS} (h3 : ¬ s.1 151 3 = 1) : qev en (d + 2) 254 [.ref 151] s = some (some (.int 0), s) := le_X12_isName en (d + 1) s _ (if_pos h3)
theorem m_isWord {en : pN} {d v c : Nat} {s : qS} {C : Int64} (hv : v < 128 ^ 8) (hc : c < 128 ^ 8) (hC : C = Int64.ofNat (w8 8 c)) (h5 : s.2.1 151 5 = Int64.ofNat (w8 8 v)) (h3 : s.1 151 3 = 1) : qev en (d + 1) 255 [.ref 151, .long C] s = some (some (.int (tI (decide (v = c)))), s) := by
  refine le_X12_isWord en d C s _ ?_
  subst hC
  rw [h3, if_neg (not_not_intro rfl), h5]
  by_cases h : v = c
  · rw [if_neg (not_not_intro (lgc0.mpr ((key8 hv hc).mpr h))), decide_eq_true h]; rfl
  · rw [if_pos (fun z => h ((key8 hv hc).mp (lgc0.mp z))), decide_eq_false h]; rfl
theorem m_isWord0 {en : pN} {d : Nat} {s : qS} {C : Int64} (h3 : ¬ s.1 151 3 = 1) : qev en (d + 1) 255 [.ref 151, .long C] s = some (some (.int 0), s) := le_X12_isWord en d C s _ (if_pos h3)
