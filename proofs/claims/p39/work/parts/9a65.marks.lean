/-! BITS of ints that are small numbers; marks, steps packed. -/
section BN
variable {a b c k : Nat}
theorem or_nI (ha : a < 2 ^ 31) (hb : b < 2 ^ 31) : nI a ||| nI b = nI (a ||| b) := by
  rw [← Int32.toBitVec_inj, Int32.toBitVec_or]
  refine BitVec.eq_of_getLsbD_eq fun i hi => ?_
  rw [BitVec.getLsbD_or, nI_bit ha, nI_bit hb, nI_bit (Nat.or_lt_two_pow ha hb), Nat.testBit_or]
theorem an_nI (ha : a < 2 ^ 31) (hb : b < 2 ^ 31) : nI a &&& nI b = nI (a &&& b) := by
  rw [and_nI hb]
  congr 2
  show (BitVec.ofNat 32 a).toNat = a
  rw [BitVec.toNat_ofNat, Nat.mod_eq_of_lt (by omega)]
theorem shl_nI (hc : c < 31) (h : a * 2 ^ c < 2 ^ 31) : nI a <<< (nI c &&& 31) = nI (a * 2 ^ c) := by
  have hp := Nat.two_pow_pos c
  have ha : a < 2 ^ 31 := Nat.lt_of_le_of_lt (Nat.le_mul_of_pos_right a hp) h
  rw [← Int32.toBitVec_inj, sm32 (by omega), shl_bv (by omega)]
  refine BitVec.eq_of_toNat_eq ?_
  show ((BitVec.ofNat 32 a) <<< c).toNat = (BitVec.ofNat 32 (a * 2 ^ c)).toNat
  rw [BitVec.toNat_shiftLeft, BitVec.toNat_ofNat, BitVec.toNat_ofNat, Nat.mod_eq_of_lt (show a < 2 ^ 32 by omega), Nat.shiftLeft_eq]
theorem shr_nI (hc : c < 31) (ha : a < 2 ^ 31) : nI a >>> (nI c &&& 31) = nI (a / 2 ^ c) := by
  rw [← Int32.toBitVec_inj, sm32 (by omega), shr_bv (by omega)]
  have hm : (nI a).toBitVec.msb = false := by
    rw [BitVec.msb_eq_getLsbD_last, nI_bit ha]
    exact Nat.testBit_lt_two_pow ha
  rw [BitVec.sshiftRight_eq_of_msb_false hm]
  refine BitVec.eq_of_toNat_eq ?_
  show ((BitVec.ofNat 32 a) >>> c).toNat = (BitVec.ofNat 32 (a / 2 ^ c)).toNat
  have hd : a / 2 ^ c ≤ a := Nat.div_le_self ..
  rw [BitVec.toNat_ushiftRight, BitVec.toNat_ofNat, BitVec.toNat_ofNat, Nat.mod_eq_of_lt (show a < 2 ^ 32 by omega), Nat.shiftRight_eq_div_pow, Nat.mod_eq_of_lt (by omega)]
theorem or_add (h : b < 2 ^ k) : a * 2 ^ k ||| b = a * 2 ^ k + b := by
  rw [Nat.mul_comm]
  exact (Nat.two_pow_add_eq_or_of_lt h a).symm
end BN
/-- a step of a thread by a choice, as a number; and with a state -/
abbrev stN (a : Nat) : Nat := a / 10 * 16 + a % 10
theorem st_pack {a : Nat} (ha : a < 40) : (nI (a / 10) <<< ((4 : Int32) &&& 31)) ||| nI (a % 10) = nI (stN a) := by
  have h : a % 10 < 2 ^ 4 := by omega
  rw [show (4 : Int32) = nI 4 from rfl, shl_nI (by decide) (by omega), or_nI (by omega) (by omega), or_add h]
theorem st_lt {a : Nat} (ha : a < 40) : stN a < 64 := by unfold stN; omega
theorem ed_pack {t a : Nat} (ha : a < 40) (ht : t < 2 ^ 20) : (nI t <<< ((6 : Int32) &&& 31)) ||| nI (stN a) = nI (t * 64 + stN a) := by
  have h : stN a < 2 ^ 6 := st_lt ha
  rw [show (6 : Int32) = nI 6 from rfl, shl_nI (by decide) (by omega), or_nI (by omega) (by omega), or_add h]
theorem ed_st {t a : Nat} (ha : a < 40) (ht : t < 2 ^ 20) : nI (t * 64 + stN a) >>> ((6 : Int32) &&& 31) = nI t := by
  have h := st_lt ha
  rw [show (6 : Int32) = nI 6 from rfl, shr_nI (by decide) (by omega)]
  congr 1
  omega
theorem ed_th {t a : Nat} (ha : a < 40) (ht : t < 2 ^ 20) : (nI (t * 64 + stN a) >>> ((4 : Int32) &&& 31)) &&& (3 : Int32) = nI (a / 10) := by
  have h := st_lt ha
  rw [show (4 : Int32) = nI 4 from rfl, shr_nI (by decide) (by omega), show (3 : Int32) = nI 3 from rfl, an_nI (by omega) (by decide), show (3 : Nat) = 2 ^ 2 - 1 from rfl, and_pow]
  congr 1
  unfold stN
  omega
theorem ed_ch {t a : Nat} (ha : a < 40) (ht : t < 2 ^ 20) : nI (t * 64 + stN a) &&& (15 : Int32) = nI (a % 10) := by
  have h := st_lt ha
  rw [show (15 : Int32) = nI 15 from rfl, an_nI (by omega) (by decide), show (15 : Nat) = 2 ^ 4 - 1 from rfl, and_pow]
  congr 1
  unfold stN
  omega
/-- marks: the threads of ready steps l told, behind x -/
def rbN : List Nat → Nat → Nat
  | [], x => x
  | a :: l, x => rbN l (x ||| 2 ^ (a / 10))
def mrk0 (b : Bool) : Nat := if b then 16 else 0
/-- a state's mark: l its ready steps, sn whether it is a stuck end, o its outcome and 1 -/
def mrkN (b : Bool) (l : List Nat) (so : Nat) (o : Nat) : Nat := if l = [] then (if so = 0 then mrk0 b else mrk0 b ||| 32) ||| (o + 1) * 256 else rbN l (mrk0 b)
theorem rbN_lt : ∀ (l : List Nat) (x : Nat), (∀ a ∈ l, a < 40) → x < 32 → rbN l x < 32 := by
  intro l
  induction l with
  | nil => intro x _ h; exact h
  | cons a l ih =>
    intro x hl h
    refine ih _ (fun a' ha' => hl a' (List.mem_cons_of_mem _ ha')) ?_
    have : a / 10 < 4 := by have := hl a (List.mem_cons_self ..); omega
    have h2 : 2 ^ (a / 10) < 2 ^ 5 := Nat.pow_lt_pow_right (by decide) (by omega)
    exact Nat.or_lt_two_pow (n := 5) h h2
theorem rbN_bit {c : Nat} : ∀ (l : List Nat) (x : Nat), (rbN l x).testBit c = (x.testBit c || l.any (fun a => decide (a / 10 = c))) := by
  intro l
  induction l with
  | nil => intro x; show x.testBit c = (x.testBit c || false); rw [Bool.or_false]
  | cons a l ih =>
    intro x
    show (rbN l (x ||| 2 ^ (a / 10))).testBit c = _
    rw [ih, Nat.testBit_or, Nat.testBit_two_pow, List.any_cons, Bool.or_assoc]
theorem mrk0_lt {b : Bool} : mrk0 b < 32 := by cases b <;> decide
theorem mrk0_bit {b : Bool} {c : Nat} : (mrk0 b).testBit c = (b && decide (c = 4)) := by
  cases b
  · show (0 : Nat).testBit c = _
    rw [Nat.zero_testBit]; rfl
  · show (2 ^ 4 : Nat).testBit c = _
    rw [Nat.testBit_two_pow, Bool.true_and]
    by_cases h : c = 4
    · rw [decide_eq_true h, decide_eq_true h.symm]
    · rw [decide_eq_false h, decide_eq_false (fun z => h z.symm)]
theorem mrkN_lt {b : Bool} {l : List Nat} {so o : Nat} (hl : ∀ a ∈ l, a < 40) (ho : o < 2 ^ 20) : mrkN b l so o < 2 ^ 30 := by
  unfold mrkN
  split
  · have h1 : (if so = 0 then mrk0 b else mrk0 b ||| 32) < 2 ^ 30 := by
      split
      · have := @mrk0_lt b; omega
      · have := @mrk0_lt b
        exact Nat.or_lt_two_pow (by omega) (by decide)
    exact Nat.or_lt_two_pow h1 (by omega)
  · have := rbN_lt l (mrk0 b) hl mrk0_lt
    omega
theorem b256 {o c : Nat} (hc : c < 8) : (o * 256).testBit c = false := by
  rw [show o * 256 = 2 ^ 8 * o by omega, Nat.testBit_two_pow_mul]
  simp
  omega
/-- what is read of a mark: the threads, the while -/
theorem mrkN_bit {b : Bool} {l : List Nat} {so o c : Nat} (hc : c < 5) : (mrkN b l so o).testBit c = ((b && decide (c = 4)) || l.any (fun a => decide (a / 10 = c))) := by
  unfold mrkN
  split
  · rename_i h
    rw [h, Nat.testBit_or, b256 (by omega), Bool.or_false, List.any_nil, Bool.or_false, ← mrk0_bit]
    split
    · rfl
    · rw [Nat.testBit_or, show (32 : Nat) = 2 ^ 5 from rfl, Nat.testBit_two_pow, decide_eq_false (by omega), Bool.or_false]
  · rw [rbN_bit, mrk0_bit]
theorem mrkN_5 {b : Bool} {l : List Nat} {so o : Nat} (hl : ∀ a ∈ l, a < 40) : (mrkN b l so o).testBit 5 = (decide (l = []) && !decide (so = 0)) := by
  unfold mrkN
  split
  · rename_i h
    rw [decide_eq_true h, Bool.true_and, Nat.testBit_or, b256 (by omega), Bool.or_false]
    split
    · rename_i z
      rw [decide_eq_true z, mrk0_bit]; simp
    · rename_i z
      rw [decide_eq_false z, Nat.testBit_or, show (32 : Nat) = 2 ^ 5 from rfl, Nat.testBit_two_pow]; simp
  · rename_i h
    rw [decide_eq_false h, Bool.false_and]
    have := rbN_lt l (mrk0 b) hl mrk0_lt
    exact Nat.testBit_lt_two_pow (Nat.lt_of_lt_of_le this (by decide))
theorem mrkN_8 {b : Bool} {l : List Nat} {so o : Nat} (hl : ∀ a ∈ l, a < 40) : mrkN b l so o / 256 = if l = [] then o + 1 else 0 := by
  unfold mrkN
  split
  · have h1 : (if so = 0 then mrk0 b else mrk0 b ||| 32) < 2 ^ 8 := by
      have := @mrk0_lt b
      split
      · omega
      · exact Nat.or_lt_two_pow (n := 8) (by omega) (by decide)
    rw [Nat.or_comm, show (256 : Nat) = 2 ^ 8 from rfl, or_add h1]
    omega
  · have := rbN_lt l (mrk0 b) hl mrk0_lt
    omega
theorem and_bit {m c : Nat} (hm : m < 2 ^ 31) (hc : c < 30) : (nI m &&& nI (2 ^ c) = 0) ↔ m.testBit c = false := by
  have h2 : 2 ^ c < 2 ^ 31 := Nat.pow_lt_pow_right (by decide) (by omega)
  rw [an_nI hm h2]
  have h3 : m &&& 2 ^ c ≤ 2 ^ c := Nat.and_le_right
  rw [show (0 : Int32) = nI 0 from rfl, nI_eq (by omega) (by decide)]
  constructor
  · intro h
    have := congrArg (fun z => z.testBit c) h
    rw [Nat.testBit_and, Nat.testBit_two_pow, decide_eq_true rfl, Bool.and_true, Nat.zero_testBit] at this
    exact this
  · intro h
    refine Nat.eq_of_testBit_eq fun i => ?_
    rw [Nat.testBit_and, Nat.testBit_two_pow, Nat.zero_testBit]
    by_cases q : c = i
    · subst q; rw [h]; rfl
    · rw [decide_eq_false q, Bool.and_false]

