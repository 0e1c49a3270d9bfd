/-! THE RUN: the bits that tell which steps are ahead. H: the row of words; ahd H j k: step k is told ahead of step j. -/
abbrev fJ : Type := Nat → Int64
def hS (s : qS) (H : fJ) : qS := (s.1, fun a k => if a = 124 then H k else s.2.1 a k, s.2.2)
def updJ (H : fJ) (k : Nat) (v : Int64) : fJ := fun j => if j = k then v else H j
def ahd (H : fJ) (j k : Nat) : Bool := (H (j * 4 + k / 64)).toBitVec.getLsbD (k % 64)
section AH
variable {s : qS} {H : fJ} {x : Int64}
theorem hS_g : (hS s H).2.1 124 = H := by
  funext k
  show (if (124 : Nat) = 124 then H k else s.2.1 124 k) = H k
  exact if_pos rfl
theorem hS_w {k : Nat} {v : Int64} : uJ (hS s H) 124 k v = hS s (updJ H k v) := by
  refine Prod.ext rfl (Prod.ext (funext fun a => funext fun j => ?_) rfl)
  show (if a = 124 ∧ j = k then v else (if a = 124 then H j else s.2.1 a j)) = (if a = 124 then (if j = k then v else H j) else s.2.1 a j)
  by_cases h : a = 124
  · by_cases q : j = k
    · rw [if_pos ⟨h, q⟩, if_pos h, if_pos q]
    · rw [if_neg (fun z => q z.2), if_pos h, if_pos h, if_neg q]
  · rw [if_neg (fun z => h z.1), if_neg h, if_neg h]
theorem n_d64 {z : Nat} (h : z < 2 ^ 31) : nI z / (64 : Int32) = nI (z / 64) := by
  have e : (nI z / (64 : Int32)).toInt = (nI (z / 64)).toInt := by
    rw [Int32.toInt_div, n_to h, n_to (by omega)]
    show ((z : Int).tdiv (64 : Int)).bmod (2 ^ 32) = _
    rw [show (64 : Int) = ((64 : Nat) : Int) from rfl, ← Int.ofNat_tdiv]
    rw [Int.bmod_eq_of_le (by omega) (by omega)]
  exact Int32.toInt_inj.mp e
theorem n_r64 {z : Nat} (h : z < 2 ^ 31) : nI z - nI z / (64 : Int32) * (64 : Int32) = nI (z % 64) := by
  rw [n_d64 h, n_mr, n_sub (by show z / 64 * 64 ≤ z; omega)]
  congr 1
  show z - z / 64 * 64 = z % 64
  omega
theorem sh64 : ∀ r : Nat, r < 64 → ((nI r).toInt64 &&& 63).toBitVec.smod 64 = BitVec.ofNat 64 r := by decide +kernel
theorem one_bit {q : Nat} : (1 : Int64).toBitVec.getLsbD q = decide (q = 0) := by
  show (1#64).getLsbD q = _
  rw [BitVec.getLsbD_one]
  simp
theorem shl_bit {r q : Nat} (h : r < 64) (hq : q < 64) : ((1 : Int64) <<< ((nI r).toInt64 &&& 63)).toBitVec.getLsbD q = decide (q = r) := by
  rw [Int64.toBitVec_shiftLeft, sh64 r h, BitVec.shiftLeft_eq', BitVec.toNat_ofNat, Nat.mod_eq_of_lt (by omega), BitVec.getLsbD_shiftLeft, one_bit]
  rcases Nat.lt_trichotomy q r with z | z | z
  · have : ¬ q = r := by omega
    simp [z, this, hq]
  · subst z
    simp [hq]
  · have a : ¬ q < r := by omega
    have b : ¬ q - r = 0 := by omega
    have c : ¬ q = r := by omega
    simp [a, b, c]
/-- the row's words, so many of them put to j's from i's -/
def pA (H : fJ) (i j w : Nat) : fJ := fun x => if j * 4 ≤ x ∧ x < j * 4 + w then H x ||| H (i * 4 + (x - j * 4)) else H x
theorem x_putAhead {en : pN} {d i j : Nat} (hi : i < j) (hj : j < 200) : ∃ H', qev en (d + 1) 156 [.ref 111, .int (nI i), .int (nI j)] (hS s H) = some (none, hS s H') ∧ (∀ j', j' ≠ j → ∀ k, k < 256 → ahd H' j' k = ahd H j' k) ∧ (∀ k, k < 256 → ahd H' j k = (ahd H j k || (k == i || ahd H i k))) := by
  have r1 : ∀ w, w < 4 → pA H i j w (j * 4 + w) = H (j * 4 + w) := fun w hw => if_neg (by omega)
  have r2 : ∀ w, w < 4 → pA H i j w (i * 4 + w) = H (i * 4 + w) := fun w hw => if_neg (by omega)
  have r3 : ∀ w, w < 4 → updJ (pA H i j w) (j * 4 + w) (H (j * 4 + w) ||| H (i * 4 + w)) = pA H i j (w + 1) := by
    intro w hw
    funext x
    show (if x = j * 4 + w then _ else if _ then _ else _) = (if _ then _ else _)
    by_cases q : x = j * 4 + w
    · rw [if_pos q, if_pos (by omega), q]
      congr 2
      omega
    · rw [if_neg q]
      by_cases z : j * 4 ≤ x ∧ x < j * 4 + w
      · rw [if_pos z, if_pos (by omega)]
      · rw [if_neg z, if_neg (by omega)]
  have loop : ∀ (k w : Nat) (r : qR), w + k = 4 → L_X8_putAhead_2 en d (nI i) (nI j) (nI 4) (hS s (pA H i j 4)) = some r → L_X8_putAhead_2 en d (nI i) (nI j) (nI w) (hS s (pA H i j w)) = some r := by
    intro k
    induction k with
    | zero => intro w r hw h; rw [show w = 4 by omega]; exact h
    | succ k ih =>
      intro w r hw h
      have hX := ih (w + 1) r (by omega) h
      refine le_X8_putAhead_2 en d _ _ _ _ _ ?_
      rw [if_neg (by rw [n_le (by decide) (by omega)]; show ¬ 4 ≤ w; omega), n_mr, n_mr, show nI (j * (OfNat.ofNat 4 : Nat)) + nI w = nI (j * 4 + w) from (Int32.ofNat_add _ _).symm, show nI (i * (OfNat.ofNat 4 : Nat)) + nI w = nI (i * 4 + w) from (Int32.ofNat_add _ _).symm, gd_true (n_in (by omega) (by decide)), gd_true (n_in (by omega) (by decide)), n_cl (by omega), n_cl (by omega), hS_g, hS_w, r1 w (by omega), r2 w (by omega), r3 w (by omega), n_ar]
      exact hX
  have p0 : pA H i j 0 = H := by
    funext x
    exact if_neg (by omega)
  refine ⟨updJ (pA H i j 4) (j * 4 + i / 64) (pA H i j 4 (j * 4 + i / 64) ||| ((1 : Int64) <<< ((nI (i % 64)).toInt64 &&& 63))), ?_, ?_, ?_⟩
  · refine le_X8_putAhead en d _ _ _ _ ?_
    have h := loop 4 0 (none, hS s (updJ (pA H i j 4) (j * 4 + i / 64) (pA H i j 4 (j * 4 + i / 64) ||| ((1 : Int64) <<< ((nI (i % 64)).toInt64 &&& 63))))) (by decide) ?_
    · rw [p0] at h
      exact h
    · refine le_X8_putAhead_2 en d _ _ _ _ _ ?_
      rw [if_pos (by decide), n_r64 (by omega), n_d64 (by omega), n_mr, show nI (j * (OfNat.ofNat 4 : Nat)) + nI (i / 64) = nI (j * 4 + i / 64) from (Int32.ofNat_add _ _).symm, gd_true (n_in (by omega) (by decide)), n_cl (by omega), hS_g, hS_w]
      rfl
  · intro j' hj' k hk
    show ((if j' * 4 + k / 64 = j * 4 + i / 64 then _ else pA H i j 4 (j' * 4 + k / 64)) : Int64).toBitVec.getLsbD (k % 64) = _
    rw [if_neg (by omega)]
    show ((if _ then _ else H (j' * 4 + k / 64)) : Int64).toBitVec.getLsbD (k % 64) = _
    rw [if_neg (by omega)]
    rfl
  · intro k hk
    have e : pA H i j 4 (j * 4 + k / 64) = H (j * 4 + k / 64) ||| H (i * 4 + k / 64) := by
      show (if _ then _ else _) = _
      rw [if_pos (by omega)]
      congr 2
      omega
    show ((if j * 4 + k / 64 = j * 4 + i / 64 then (pA H i j 4 (j * 4 + i / 64) ||| ((1 : Int64) <<< ((nI (i % 64)).toInt64 &&& 63))) else pA H i j 4 (j * 4 + k / 64)) : Int64).toBitVec.getLsbD (k % 64) = _
    by_cases q : k / 64 = i / 64
    · rw [if_pos (by rw [q]), ← q, e, Int64.toBitVec_or, Int64.toBitVec_or, BitVec.getLsbD_or, BitVec.getLsbD_or, shl_bit (Nat.mod_lt _ (by decide)) (Nat.mod_lt _ (by decide))]
      have z : decide (k % 64 = i % 64) = (k == i) := by
        by_cases w : k = i
        · rw [w]; simp
        · rw [decide_eq_false (by omega), beq_eq_false_iff_ne.mpr w]
      rw [z]
      unfold ahd
      cases (H (j * 4 + k / 64)).toBitVec.getLsbD (k % 64) <;> cases (H (i * 4 + k / 64)).toBitVec.getLsbD (k % 64) <;> cases (k == i) <;> rfl
    · rw [if_neg (by omega), e, Int64.toBitVec_or, BitVec.getLsbD_or, beq_eq_false_iff_ne.mpr (by intro w; exact q (by rw [w])), Bool.false_or]
      rfl
/-! which steps are before which: L i j: step i leads to step j -/
def bfT (L : Nat → Nat → Bool) : Nat → Nat → Nat → Bool
  | 0 => fun _ _ => false
  | n + 1 => fun j k => if j = n then (List.range n).any (fun i => L i n && (k == i || bfT L n i k)) else bfT L n j k
def bfo (L : Nat → Nat → Bool) (j k : Nat) : Bool := bfT L (j + 1) j k
theorem bfT_o {L : Nat → Nat → Bool} {n : Nat} : ∀ j, j < n → ∀ k, bfT L n j k = bfo L j k := by
  induction n with
  | zero => intro j hj; omega
  | succ n ih =>
    intro j hj k
    by_cases q : j = n
    · subst q; rfl
    · show (if j = n then _ else bfT L n j k) = _
      rw [if_neg q, ih j (by omega) k]
theorem bfo_eq {L : Nat → Nat → Bool} {j k : Nat} : bfo L j k = (List.range j).any (fun i => L i j && (k == i || bfo L i k)) := by
  show (if j = j then (List.range j).any (fun i => L i j && (k == i || bfT L j i k)) else _) = _
  rw [if_pos rfl]
  refine Bool.eq_iff_iff.mpr ?_
  rw [List.any_eq_true, List.any_eq_true]
  constructor
  · rintro ⟨i, h1, h2⟩
    refine ⟨i, h1, ?_⟩
    rw [bfT_o i (List.mem_range.mp h1)] at h2
    exact h2
  · rintro ⟨i, h1, h2⟩
    refine ⟨i, h1, ?_⟩
    rw [bfT_o i (List.mem_range.mp h1)]
    exact h2
theorem bfo_cg {L M : Nat → Nat → Bool} {n : Nat} (h : ∀ j, j < n → ∀ i, i < j → L i j = M i j) : ∀ j, j < n → ∀ k, bfo L j k = bfo M j k := by
  intro j
  induction j using Nat.strongRecOn with
  | _ j ih =>
    intro hj k
    rw [bfo_eq, bfo_eq]
    refine Bool.eq_iff_iff.mpr ?_
    rw [List.any_eq_true, List.any_eq_true]
    constructor
    · rintro ⟨i, h1, h2⟩
      have hi := List.mem_range.mp h1
      refine ⟨i, h1, ?_⟩
      rw [h j hj i hi, ih i hi (by omega)] at h2
      exact h2
    · rintro ⟨i, h1, h2⟩
      have hi := List.mem_range.mp h1
      refine ⟨i, h1, ?_⟩
      rw [h j hj i hi, ih i hi (by omega)]
      exact h2
/-- the class's words tell it of the first n steps -/
abbrev AH (H : fJ) (L : Nat → Nat → Bool) (n : Nat) : Prop := ∀ j, j < n → ∀ k, k < 256 → ahd H j k = bfo L j k
end AH

