/-! THE HISTORY: bits of ints; what comes of a search for an order. -/
section B32
variable {x y : Int32} {i k : Nat}
theorem sm32 (h : i < 32) : (nI i &&& 31) = nI i := by
  have key : ∀ k : Nat, k < 32 → (nI k &&& 31) = nI k := by decide
  exact key i h
theorem one32 : (1 : Int32).toBitVec.getLsbD k = decide (k = 0) := by
  show (1#32).getLsbD k = _
  rw [BitVec.getLsbD_one]
  simp
theorem shb (h : i < 32) (hk : k < 32) : ((1 : Int32) <<< (nI i &&& 31)).toBitVec.getLsbD k = decide (k = i) := by
  rw [sm32 h, shl_bv h, BitVec.getLsbD_shiftLeft, one32]
  by_cases a : k < i
  · have : ¬ k = i := by omega
    simp [a, this]
  · by_cases b : k = i
    · subst b; simp [hk]
    · have : ¬ k - i = 0 := by omega
      simp [a, b, this]
theorem orb (h : i < 32) (hk : k < 32) : (x ||| ((1 : Int32) <<< (nI i &&& 31))).toBitVec.getLsbD k = (x.toBitVec.getLsbD k || decide (k = i)) := by
  rw [Int32.toBitVec_or, BitVec.getLsbD_or, shb h hk]
theorem clb (h : i < 32) (hk : k < 32) : (x &&& (((1 : Int32) <<< (nI i &&& 31)) ^^^ (-1 : Int32))).toBitVec.getLsbD k = (x.toBitVec.getLsbD k && !decide (k = i)) := by
  rw [Int32.toBitVec_and, BitVec.getLsbD_and, Int32.toBitVec_xor, BitVec.getLsbD_xor, shb h hk, show (-1 : Int32).toBitVec = BitVec.allOnes 32 from rfl, BitVec.getLsbD_allOnes, decide_eq_true hk]
  simp
theorem bitI (h : i < 32) : ((x >>> (nI i &&& 31)) &&& (1 : Int32)) = if x.toBitVec.getLsbD i = true then 1 else 0 := by
  rw [← Int32.toBitVec_inj, Int32.toBitVec_and, sm32 h, shr_bv h]
  refine BitVec.eq_of_getLsbD_eq fun j hj => ?_
  rw [BitVec.getLsbD_and, BitVec.getLsbD_sshiftRight, one32]
  by_cases a : j = 0
  · subst a
    by_cases b : x.toBitVec.getLsbD i = true
    · rw [if_pos b, one32]
      simp [h, b]
    · rw [if_neg b]
      have e : x.toBitVec.getLsbD i = false := by
        cases hh : x.toBitVec.getLsbD i with
        | false => rfl
        | true => exact absurd hh b
      rw [decide_eq_false (show ¬ 32 ≤ 0 by omega), Nat.add_zero, if_pos h, e]
      rfl
  · have e : decide (j = 0) = false := decide_eq_false a
    rw [e, Bool.and_false]
    split
    · rw [one32, e]
    · simp
/-- the bits of x are the numbers in L -/
def MK (x : Int32) (L : List Nat) : Prop := ∀ k, k < 32 → (x.toBitVec.getLsbD k = true ↔ k ∈ L)
end B32
theorem nodup_len : ∀ (n : Nat) (L : List Nat), L.Nodup → (∀ i ∈ L, i < n) → L.length ≤ n := by
  intro n
  induction n with
  | zero =>
    intro L _ h
    cases L with
    | nil => exact Nat.le_refl 0
    | cons a L => exact absurd (h a (List.mem_cons_self ..)) (Nat.not_lt_zero a)
  | succ n ih =>
    intro L hd h
    have h1 : (L.erase n).Nodup := hd.erase n
    have h2 : ∀ i ∈ L.erase n, i < n := fun i hi => by
      have hm := (hd.mem_erase_iff).mp hi
      have := h i hm.2
      have := hm.1
      omega
    have h3 := ih _ h1 h2
    rw [List.length_erase] at h3
    split at h3 <;> omega
