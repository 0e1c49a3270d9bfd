/-! VIEWS: eight numbers below sixteen in an int. -/
def nb (v : Int32) (c : Nat) : Nat := (v.toBitVec >>> (4 * c)).toNat % 16
theorem nb_lt {v : Int32} {c : Nat} : nb v c < 16 := Nat.mod_lt _ (by decide)
theorem nb_bit {v : Int32} {c i : Nat} (hi : i < 4) : (nb v c).testBit i = v.toBitVec.getLsbD (4 * c + i) := by
  unfold nb
  rw [show (16 : Nat) = 2 ^ 4 by decide, Nat.testBit_mod_two_pow, decide_eq_true hi, Bool.true_and, ← BitVec.getLsbD, BitVec.getLsbD_ushiftRight]
theorem nb_ext {u v : Int32} (h : ∀ c, c < 8 → nb u c = nb v c) : u = v := by
  rw [← Int32.toBitVec_inj]
  refine BitVec.eq_of_getLsbD_eq fun i hi => ?_
  have e : i = 4 * (i / 4) + i % 4 := by omega
  rw [e, ← nb_bit (by omega), ← nb_bit (by omega), h (i / 4) (by omega)]
theorem nb_of {v : Int32} {c k : Nat} (hk : k < 16) (h : ∀ i, i < 4 → v.toBitVec.getLsbD (4 * c + i) = k.testBit i) : nb v c = k := by
  refine Nat.eq_of_testBit_eq fun i => ?_
  rcases Nat.lt_or_ge i 4 with q | q
  · rw [nb_bit q, h i q]
  · rw [Nat.testBit_lt_two_pow (Nat.lt_of_lt_of_le nb_lt (Nat.pow_le_pow_right (n := 2) (i := 4) (by decide) q)), Nat.testBit_lt_two_pow (Nat.lt_of_lt_of_le hk (Nat.pow_le_pow_right (n := 2) (i := 4) (by decide) q))]
theorem nI_bit {k i : Nat} (hk : k < 2 ^ 31) : (nI k).toBitVec.getLsbD i = k.testBit i := by
  show (BitVec.ofNat 32 k).getLsbD i = _
  rw [BitVec.getLsbD_ofNat]
  rcases Nat.lt_or_ge i 32 with q | q
  · rw [decide_eq_true q, Bool.true_and]
  · rw [Nat.testBit_lt_two_pow (Nat.lt_of_lt_of_le hk (Nat.pow_le_pow_right (n := 2) (i := 31) (by decide) (by omega)))]
    simp
theorem sh_4 {c : Nat} (h : c < 8) : ((4 : Int32) * nI c) &&& 31 = nI (4 * c) := by
  match c, h with
  | 0, _ => rfl
  | 1, _ => rfl
  | 2, _ => rfl
  | 3, _ => rfl
  | 4, _ => rfl
  | 5, _ => rfl
  | 6, _ => rfl
  | 7, _ => rfl
  | n + 8, h => exact absurd h (by omega)
theorem smod_k : ∀ k : Nat, k < 32 → (BitVec.ofNat 32 k).smod 32 = BitVec.ofNat 32 k := by decide
theorem shl_bv {v : Int32} {k : Nat} (h : k < 32) : (v <<< nI k).toBitVec = v.toBitVec <<< k := by
  rw [Int32.toBitVec_shiftLeft, show (nI k).toBitVec.smod 32 = BitVec.ofNat 32 k from smod_k k h, BitVec.shiftLeft_eq', BitVec.toNat_ofNat, Nat.mod_eq_of_lt (by omega)]
theorem shr_bv {v : Int32} {k : Nat} (h : k < 32) : (v >>> nI k).toBitVec = v.toBitVec.sshiftRight k := by
  rw [Int32.toBitVec_shiftRight, show (nI k).toBitVec.smod 32 = BitVec.ofNat 32 k from smod_k k h, BitVec.sshiftRight_eq', BitVec.toNat_ofNat, Nat.mod_eq_of_lt (by omega)]
theorem m15_bit {i : Nat} : (15 : Int32).toBitVec.getLsbD i = decide (i < 4) := by
  show (15#32).getLsbD i = _
  rcases Nat.lt_or_ge i 4 with q | q
  · match i, q with
    | 0, _ => rfl
    | 1, _ => rfl
    | 2, _ => rfl
    | 3, _ => rfl
    | n + 4, q => exact absurd q (by omega)
  · rw [decide_eq_false (by omega), ← BitVec.testBit_toNat]
    exact Nat.testBit_lt_two_pow (Nat.lt_of_lt_of_le (show (15#32).toNat < 2 ^ 4 by decide) (Nat.pow_le_pow_right (by decide) q))
/-- a number of a view, as the class reads it -/
theorem vw_X {v : Int32} {c : Nat} (h : c < 8) : ((v.toUInt32 >>> (((4 : Int32) * nI c).toUInt32 &&& Int32.toUInt32 31)).toInt32 &&& (15 : Int32)) = nI (nb v c) := by
  rw [← Int32.toBitVec_inj]
  refine BitVec.eq_of_getLsbD_eq fun i hi => ?_
  rw [nI_bit (Nat.lt_of_lt_of_le nb_lt (by decide)), Int32.toBitVec_and, BitVec.getLsbD_and, m15_bit]
  have e : ((v.toUInt32 >>> (((4 : Int32) * nI c).toUInt32 &&& Int32.toUInt32 31)).toInt32).toBitVec = v.toBitVec >>> (4 * c) := by
    match c, h with
    | 0, _ => rfl
    | 1, _ => rfl
    | 2, _ => rfl
    | 3, _ => rfl
    | 4, _ => rfl
    | 5, _ => rfl
    | 6, _ => rfl
    | 7, _ => rfl
    | n + 8, h => exact absurd h (by omega)
  rw [e]
  unfold nb
  rw [show (16 : Nat) = 2 ^ 4 by decide, Nat.testBit_mod_two_pow, BitVec.testBit_toNat, Bool.and_comm]
/-- and the model -/
theorem vw_M {v : Int32} {c : Nat} (h : c < 8) : ((v >>> (((4 : Int32) * nI c) &&& 31)) &&& (15 : Int32)) = nI (nb v c) := by
  rw [← Int32.toBitVec_inj, sh_4 h]
  refine BitVec.eq_of_getLsbD_eq fun i hi => ?_
  rw [nI_bit (Nat.lt_of_lt_of_le nb_lt (by decide)), Int32.toBitVec_and, BitVec.getLsbD_and, m15_bit, shr_bv (by omega), BitVec.getLsbD_sshiftRight]
  rcases Nat.lt_or_ge i 4 with q | q
  · rw [nb_bit q, decide_eq_true q, Bool.and_true, if_pos (by omega), decide_eq_false (by omega : ¬ 32 ≤ i)]
    rfl
  · rw [decide_eq_false (show ¬ i < 4 by omega), Bool.and_false, Nat.testBit_lt_two_pow (Nat.lt_of_lt_of_le nb_lt (Nat.pow_le_pow_right (n := 2) (i := 4) (by decide) q))]
/-- a number of a view anew -/
def sn (v : Int32) (c k : Nat) : Int32 := (v &&& (((15 : Int32) <<< nI (4 * c)) ^^^ (-1))) ||| (nI k <<< nI (4 * c))
theorem sn_nb {v : Int32} {c k e : Nat} (hc : c < 8) (hk : k < 16) (he : e < 8) : nb (sn v c k) e = if e = c then k else nb v e := by
  have key : ∀ i, i < 4 → (sn v c k).toBitVec.getLsbD (4 * e + i) = if e = c then k.testBit i else v.toBitVec.getLsbD (4 * e + i) := by
    intro i hi
    unfold sn
    rw [Int32.toBitVec_or, Int32.toBitVec_and, Int32.toBitVec_xor, shl_bv (by omega), shl_bv (by omega)]
    rw [BitVec.getLsbD_or, BitVec.getLsbD_and, BitVec.getLsbD_xor, BitVec.getLsbD_shiftLeft, BitVec.getLsbD_shiftLeft, m15_bit, nI_bit (by omega), show (-1 : Int32).toBitVec = BitVec.allOnes 32 from rfl, BitVec.getLsbD_allOnes]
    rw [decide_eq_true (show 4 * e + i < 32 by omega)]
    by_cases q : e = c
    · subst q
      rw [if_pos rfl, decide_eq_false (show ¬ 4 * e + i < 4 * e by omega), decide_eq_true (show 4 * e + i - 4 * e < 4 by omega), show 4 * e + i - 4 * e = i by omega]
      simp
    · rw [if_neg q]
      rcases Nat.lt_or_ge e c with z | z
      · rw [decide_eq_true (show 4 * e + i < 4 * c by omega)]
        simp
      · rw [decide_eq_false (show ¬ 4 * e + i < 4 * c by omega), decide_eq_false (show ¬ 4 * e + i - 4 * c < 4 by omega)]
        have : k.testBit (4 * e + i - 4 * c) = false := Nat.testBit_lt_two_pow (Nat.lt_of_lt_of_le hk (Nat.pow_le_pow_right (n := 2) (i := 4) (by decide) (by omega)))
        rw [this]
        simp
  by_cases q : e = c
  · rw [if_pos q]
    exact nb_of hk fun i hi => by rw [key i hi, if_pos q]
  · rw [if_neg q]
    exact nb_of nb_lt fun i hi => by rw [key i hi, if_neg q, nb_bit hi]
/-- an int out of eight numbers -/
def mkv (f : Nat → Nat) : Nat → Int32
  | 0 => 0
  | c + 1 => sn (mkv f c) c (f c)
theorem nb_0 {e : Nat} (he : e < 8) : nb 0 e = 0 := by
  match e, he with
  | 0, _ => rfl
  | 1, _ => rfl
  | 2, _ => rfl
  | 3, _ => rfl
  | 4, _ => rfl
  | 5, _ => rfl
  | 6, _ => rfl
  | 7, _ => rfl
  | n + 8, h => exact absurd h (by omega)
theorem mkv_nb {f : Nat → Nat} (hf : ∀ c, f c < 16) : ∀ c e : Nat, c ≤ 8 → e < 8 → nb (mkv f c) e = if e < c then f e else 0 := by
  intro c
  induction c with
  | zero => intro e _ he; rw [if_neg (by omega)]; exact nb_0 he
  | succ c ih =>
    intro e hc he
    show nb (sn (mkv f c) c (f c)) e = _
    rw [sn_nb (by omega) (hf c) he, ih e (by omega) he]
    by_cases q : e = c
    · rw [if_pos q, if_pos (by omega), q]
    · rw [if_neg q]
      by_cases z : e < c
      · rw [if_pos z, if_pos (by omega)]
      · rw [if_neg z, if_neg (by omega)]
/-- two views joined -/
def jn (a b : Int32) : Int32 := mkv (fun c => max (nb a c) (nb b c)) 8
theorem jn_nb {a b : Int32} {e : Nat} (he : e < 8) : nb (jn a b) e = max (nb a e) (nb b e) := by
  unfold jn
  rw [mkv_nb (fun c => by have := @nb_lt a c; have := @nb_lt b c; omega) 8 e (by omega) he, if_pos he]
theorem jn_comm {a b : Int32} : jn a b = jn b a := nb_ext fun c hc => by rw [jn_nb hc, jn_nb hc, Nat.max_comm]
theorem jn_0 : jn 0 0 = 0 := by decide
/-- numbers laid into an empty place -/
theorem or_nb {v : Int32} {c k : Nat} (hc : c < 8) (hk : k < 16) (hv : ∀ e, e < 8 → c ≤ e → nb v e = 0) : v ||| (nI k <<< nI (4 * c)) = sn v c k := by
  unfold sn
  congr 1
  rw [← Int32.toBitVec_inj]
  refine BitVec.eq_of_getLsbD_eq fun i hi => ?_
  rw [Int32.toBitVec_and, Int32.toBitVec_xor, shl_bv (by omega), BitVec.getLsbD_and, BitVec.getLsbD_xor, BitVec.getLsbD_shiftLeft, m15_bit, show (-1 : Int32).toBitVec = BitVec.allOnes 32 from rfl, BitVec.getLsbD_allOnes, decide_eq_true hi]
  rcases Nat.lt_or_ge i (4 * c) with q | q
  · rw [decide_eq_true q]; simp
  · have e : v.toBitVec.getLsbD i = false := by
      have h := hv (i / 4) (by omega) (by omega)
      have := nb_bit (v := v) (c := i / 4) (i := i % 4) (by omega)
      rw [h, show 4 * (i / 4) + i % 4 = i by omega, Nat.zero_testBit] at this
      exact this.symm
    rw [e]; simp

