/-! WORDS BY NUMBERS: the class counts a letter by 7 bits, the model by 8. -/
theorem sh_nat {a b s : Nat} {S : Int64} (hS : (S.toBitVec.smod 64).toNat = s) (hs : s ≤ 64) (ha : a * 2 ^ s < 2 ^ 64) (hb : b < 2 ^ s) (hb' : b < 2 ^ 64) : (Int64.ofNat a <<< S) ||| Int64.ofNat b = Int64.ofNat (2 ^ s * a + b) := by
  apply Int64.toBitVec_inj.mp
  rw [Int64.toBitVec_or, Int64.toBitVec_shiftLeft]
  apply BitVec.eq_of_toNat_eq
  rw [BitVec.toNat_or]
  simp only [Int64.toBitVec_ofNat']
  have e1 : (BitVec.ofNat 64 a <<< S.toBitVec.smod 64).toNat = a <<< s := by
    rw [BitVec.shiftLeft_eq', hS, BitVec.toNat_shiftLeft, BitVec.toNat_ofNat, Nat.shiftLeft_eq, Nat.shiftLeft_eq, Nat.mod_eq_of_lt (a := a)]
    · exact Nat.mod_eq_of_lt ha
    · exact Nat.lt_of_le_of_lt (Nat.le_mul_of_pos_right a (Nat.two_pow_pos s)) ha
  rw [e1, BitVec.toNat_ofNat, BitVec.toNat_ofNat, Nat.mod_eq_of_lt hb', ← Nat.shiftLeft_add_eq_or_of_lt hb, Nat.shiftLeft_eq, Nat.mul_comm a]
  refine (Nat.mod_eq_of_lt ?_).symm
  have h1 : 2 ^ s * a + b < 2 ^ s * a + 2 ^ s := by omega
  have h2 : 2 ^ s * (a + 1) ≤ 2 ^ 64 := by
    obtain ⟨c, hc⟩ := Nat.exists_eq_add_of_le hs
    rw [hc, Nat.pow_add] at ha ⊢
    rw [Nat.mul_comm] at ha
    exact Nat.mul_le_mul_left _ (Nat.lt_of_mul_lt_mul_left ha)
  rw [Nat.mul_add, Nat.mul_one] at h2
  omega
theorem f7_nat {a b : Nat} (ha : a < 2 ^ 57) (hb : b < 128) : f7 (Int64.ofNat a) b = Int64.ofNat (128 * a + b) := by
  unfold f7
  rw [nI_l (by omega), show ((7 : Int32).toInt64 &&& 63) = (7 : Int64) by decide]
  exact sh_nat (s := 7) (by decide) (by decide) (by omega) hb (by omega)
theorem f8_nat {a b : Nat} (ha : a < 2 ^ 56) (hb : b < 256) : f8 (Int64.ofNat a) b = Int64.ofNat (256 * a + b) := by
  unfold f8
  rw [nI_l (by omega), show ((8 : Int32).toInt64 &&& 63) = (8 : Int64) by decide]
  exact sh_nat (s := 8) (by decide) (by decide) (by omega) hb (by omega)
/-- the number of a word: base c -/
def wnu (P : Nat → Bool) (c : Nat) (B : Nat → Nat) : Nat → Nat → Nat → Nat
  | 0, _, m => m
  | k + 1, p, m => if P (B p) = true then wnu P c B k (p + 1) (c * m + B p) else m
theorem wch_lt {b : Nat} (h : wch b = true) : 48 ≤ b ∧ b < 128 := by
  unfold wch ltr dgt at h
  simp only [Bool.or_eq_true, decide_eq_true_eq] at h
  omega
/-- the class's word of at most so many letters -/
theorem wcd7 {B : Nat → Nat} : ∀ (k p j m : Nat), m < 128 ^ j → wnd wch B k p - p + j ≤ 8 → wcd wch f7 B k p (Int64.ofNat m) = Int64.ofNat (wnu wch 128 B k p m) ∧ wnu wch 128 B k p m < 128 ^ (wnd wch B k p - p + j) := by
  intro k
  induction k with
  | zero => intro p j m hm _; exact ⟨rfl, by show m < 128 ^ (p - p + j); rw [Nat.sub_self, Nat.zero_add]; exact hm⟩
  | succ k ih =>
    intro p j m hm hj
    unfold wcd wnu wnd
    by_cases h : wch (B p) = true
    · rw [if_pos h, if_pos h, if_pos h]
      unfold wnd at hj
      rw [if_pos h] at hj
      have hb := wch_lt h
      have hge := wnd_ge (P := wch) (B := B) k (p + 1)
      have hm7 : m < 128 ^ 7 := Nat.lt_of_lt_of_le hm (Nat.pow_le_pow_right (by decide) (by omega))
      rw [f7_nat (by omega) hb.2]
      have hm' : 128 * m + B p < 128 ^ (j + 1) := by
        rw [Nat.pow_succ]
        have : m + 1 ≤ 128 ^ j := hm
        omega
      have := ih (p + 1) (j + 1) (128 * m + B p) hm' (by omega)
      rw [show wnd wch B k (p + 1) - p + j = wnd wch B k (p + 1) - (p + 1) + (j + 1) by omega]
      exact this
    · rw [if_neg h, if_neg h, if_neg h, Nat.sub_self, Nat.zero_add]
      exact ⟨rfl, hm⟩
theorem wcd8 {B : Nat → Nat} : ∀ (k p j m : Nat), m < 256 ^ j → wnd wch B k p - p + j ≤ 8 → wcd wch f8 B k p (Int64.ofNat m) = Int64.ofNat (wnu wch 256 B k p m) ∧ wnu wch 256 B k p m < 256 ^ (wnd wch B k p - p + j) := by
  intro k
  induction k with
  | zero => intro p j m hm _; exact ⟨rfl, by show m < 256 ^ (p - p + j); rw [Nat.sub_self, Nat.zero_add]; exact hm⟩
  | succ k ih =>
    intro p j m hm hj
    unfold wcd wnu wnd
    by_cases h : wch (B p) = true
    · rw [if_pos h, if_pos h, if_pos h]
      unfold wnd at hj
      rw [if_pos h] at hj
      have hb := wch_lt h
      have hge := wnd_ge (P := wch) (B := B) k (p + 1)
      have hm7 : m < 256 ^ 7 := Nat.lt_of_lt_of_le hm (Nat.pow_le_pow_right (by decide) (by omega))
      rw [f8_nat (by omega) (by omega)]
      have hm' : 256 * m + B p < 256 ^ (j + 1) := by
        rw [Nat.pow_succ]
        have : m + 1 ≤ 256 ^ j := hm
        omega
      have := ih (p + 1) (j + 1) (256 * m + B p) hm' (by omega)
      rw [show wnd wch B k (p + 1) - p + j = wnd wch B k (p + 1) - (p + 1) + (j + 1) by omega]
      exact this
    · rw [if_neg h, if_neg h, if_neg h, Nat.sub_self, Nat.zero_add]
      exact ⟨rfl, hm⟩
/-- the same letters by 8 bits -/
def w8 : Nat → Nat → Nat
  | 0, _ => 0
  | k + 1, m => 256 * w8 k (m / 128) + m % 128
theorem w8_push {k m b : Nat} (hb : b < 128) : w8 (k + 1) (128 * m + b) = 256 * w8 k m + b := by
  show 256 * w8 k ((128 * m + b) / 128) + (128 * m + b) % 128 = 256 * w8 k m + b
  rw [show (128 * m + b) / 128 = m by omega, show (128 * m + b) % 128 = b by omega]
theorem w8_more : ∀ (k m : Nat), m < 128 ^ k → w8 (k + 1) m = w8 k m := by
  intro k
  induction k with
  | zero =>
    intro m h
    have : m = 0 := by simpa using h
    subst this
    rfl
  | succ k ih =>
    intro m h
    show 256 * w8 (k + 1) (m / 128) + m % 128 = 256 * w8 k (m / 128) + m % 128
    rw [ih (m / 128) (by rw [Nat.pow_succ] at h; omega)]
theorem w8_inj : ∀ (k m m' : Nat), m < 128 ^ k → m' < 128 ^ k → w8 k m = w8 k m' → m = m' := by
  intro k
  induction k with
  | zero =>
    intro m m' h h' _
    have a : m = 0 := by simpa using h
    have b : m' = 0 := by simpa using h'
    omega
  | succ k ih =>
    intro m m' h h' e
    have e : 256 * w8 k (m / 128) + m % 128 = 256 * w8 k (m' / 128) + m' % 128 := e
    have := ih (m / 128) (m' / 128) (by rw [Nat.pow_succ] at h; omega) (by rw [Nat.pow_succ] at h'; omega) (by omega)
    omega
/-- the two numbers of a word -/
theorem wnu8 {B : Nat → Nat} : ∀ (k p j m : Nat), m < 128 ^ j → wnd wch B k p - p + j ≤ 8 → wnu wch 256 B k p (w8 8 m) = w8 8 (wnu wch 128 B k p m) := by
  intro k
  induction k with
  | zero => intro p j m _ _; rfl
  | succ k ih =>
    intro p j m hm hj
    unfold wnu
    by_cases h : wch (B p) = true
    · rw [if_pos h, if_pos h]
      unfold wnd at hj
      rw [if_pos h] at hj
      have hb := wch_lt h
      have hge := wnd_ge (P := wch) (B := B) k (p + 1)
      have hm7 : m < 128 ^ 7 := Nat.lt_of_lt_of_le hm (Nat.pow_le_pow_right (by decide) (by omega))
      have hm' : 128 * m + B p < 128 ^ (j + 1) := by
        rw [Nat.pow_succ]
        have : m + 1 ≤ 128 ^ j := hm
        omega
      have e : 256 * w8 8 m + B p = w8 8 (128 * m + B p) := by
        rw [w8_push (k := 7) hb.2, w8_more 7 m hm7]
      rw [e]
      exact ih (p + 1) (j + 1) (128 * m + B p) hm' (by omega)
    · rw [if_neg h, if_neg h]
theorem w8_lt {m : Nat} : ∀ k : Nat, w8 k m < 256 ^ k := by
  intro k
  induction k generalizing m with
  | zero => exact Nat.zero_lt_one
  | succ k ih =>
    have := ih (m := m / 128)
    show 256 * w8 k (m / 128) + m % 128 < 256 ^ (k + 1)
    rw [Nat.pow_succ]
    omega
theorem i64_inj {a b : Nat} (ha : a < 2 ^ 64) (hb : b < 2 ^ 64) : Int64.ofNat a = Int64.ofNat b ↔ a = b := by
  constructor
  · intro h
    have h := congrArg (fun z => z.toBitVec.toNat) h
    simp only [Int64.toBitVec_ofNat', BitVec.toNat_ofNat] at h
    rwa [Nat.mod_eq_of_lt ha, Nat.mod_eq_of_lt hb] at h
  · exact fun h => by rw [h]
/-! numbers of at most three figures -/
def nnu (B : Nat → Nat) : Nat → Nat → Nat → Nat
  | 0, _, m => m
  | k + 1, p, m => if dgt (B p) = true then nnu B k (p + 1) (10 * m + (B p - 48)) else m
theorem dgt_lt {b : Nat} (h : dgt b = true) : 48 ≤ b ∧ b ≤ 57 := of_decide_eq_true h
theorem f10_nat {a b : Nat} (ha : a < 1000) (hb : 48 ≤ b ∧ b ≤ 57) : f10 (Int64.ofNat a) b = Int64.ofNat (10 * a + (b - 48)) := by
  unfold f10
  rw [nI_l (by omega)]
  unfold lN
  have e1 : Int64.ofNat a * (10 : Int64) = Int64.ofNat (10 * a) := by
    rw [Nat.mul_comm, Int64.ofNat_mul]; rfl
  rw [e1, ← Int64.ofNat_add]
  have e2 : 10 * a + b = (10 * a + (b - 48)) + 48 := by omega
  rw [e2, Int64.ofNat_add]
  exact Int64.add_sub_cancel _ _
theorem wcd10 {B : Nat → Nat} : ∀ (k p j m : Nat), m < 10 ^ j → wnd dgt B k p - p + j ≤ 3 → wcd dgt f10 B k p (Int64.ofNat m) = Int64.ofNat (nnu B k p m) ∧ ncd B k p j (nI m) = nI (nnu B k p m) ∧ nnu B k p m < 1000 := by
  intro k
  induction k with
  | zero =>
    intro p j m hm hj
    refine ⟨rfl, rfl, ?_⟩
    show m < 10 ^ 3
    exact Nat.lt_of_lt_of_le hm (Nat.pow_le_pow_right (by decide) (by omega))
  | succ k ih =>
    intro p j m hm hj
    unfold wcd ncd nnu
    by_cases h : dgt (B p) = true
    · rw [if_pos h, if_pos h, if_pos h]
      unfold wnd at hj
      rw [if_pos h] at hj
      have hb := dgt_lt h
      have hge := wnd_ge (P := dgt) (B := B) k (p + 1)
      have hm2 : m < 10 ^ 2 := Nat.lt_of_lt_of_le hm (Nat.pow_le_pow_right (by decide) (by omega))
      rw [f10_nat (by omega) hb, if_pos (by omega)]
      have e : (((10 : Int32) * nI m) + nI (B p)) - (48 : Int32) = nI (10 * m + (B p - 48)) := by
        have e1 : (10 : Int32) * nI m = nI (10 * m) := by
          show Int32.ofNat 10 * Int32.ofNat m = Int32.ofNat (10 * m)
          rw [Int32.ofNat_mul]
        rw [e1, nI_add, show (48 : Int32) = nI 48 from rfl, nI_sub (by omega), show 10 * m + B p - 48 = 10 * m + (B p - 48) by omega]
      rw [e]
      have hm' : 10 * m + (B p - 48) < 10 ^ (j + 1) := by
        rw [Nat.pow_succ]
        have : m + 1 ≤ 10 ^ j := hm
        omega
      exact ih (p + 1) (j + 1) _ hm' (by omega)
    · rw [if_neg h, if_neg h, if_neg h]
      refine ⟨rfl, rfl, ?_⟩
      unfold wnd at hj
      rw [if_neg h] at hj
      show m < 10 ^ 3
      exact Nat.lt_of_lt_of_le hm (Nat.pow_le_pow_right (by decide) (by omega))

