/-! WHAT HOLDS OF PROGRAMS AND STATES; the class's take. -/
abbrev kd (P : Nat → fI) (i : Nat) : Nat := clp (P 7 i)
abbrev ob (P : Nat → fI) (i : Nat) : Nat := clp (P 9 i)
abbrev lct (P : Nat → fI) (t : Nat) : Nat := clp (P 3 t)
def inR (x : Int32) : Prop := -999 ≤ x ∧ x ≤ 999
/-- where thread t may go -/
def goV (P : Nat → fI) (n t : Nat) (x : Int32) : Prop := x = -1 ∨ ∃ j, x = nI j ∧ j < n ∧ P 8 j = nI t
def lnV (P : Nat → fI) (nc nl nt n i : Nat) : Prop := (P 7 i = nI (kd P i) ∧ kd P i < 19) ∧ (∃ t, t < nt ∧ P 8 i = nI t ∧ goV P n t (P 22 i) ∧ goV P n t (P 23 i) ∧ (P 10 i = -2 ∨ ∃ k, P 10 i = nI k ∧ k < lct P t)) ∧ (1 ≤ kd P i → kd P i ≤ 4 → P 9 i = nI (ob P i) ∧ ob P i < nc) ∧ (5 ≤ kd P i → kd P i ≤ 9 → P 9 i = nI (ob P i) ∧ ob P i < nl) ∧ (kd P i = 10 ∨ kd P i = 11 → P 9 i = nI (ob P i) ∧ ob P i < nt) ∧ expOK P 5 i ∧ expOK P 7 i
def PV (P : Nat → fI) (nc nl nt n : Nat) : Prop := (P 0 9 = nI nc ∧ nc ≤ 8) ∧ (P 0 10 = nI nl ∧ nl ≤ 4) ∧ (P 0 11 = nI nt ∧ nt ≤ 4) ∧ (P 0 12 = nI n ∧ n ≤ 100) ∧ (∀ i, i < n → lnV P nc nl nt n i) ∧ (∀ t, t < nt → goV P n t (P 5 t) ∧ P 3 t = nI (lct P t) ∧ lct P t ≤ 6)
/-- a thread of a state -/
def thV (P : Nat → fI) (n : Nat) (N : fI) (t : Nat) : Prop :=
  ((N t = 0 ∨ N t = 4) ∧ N (4 + t) = -1 ∧ N (8 + t) = 0 ∧ N (12 + t) = 0) ∨
  (N t = 1 ∧ (∃ i, i < n ∧ N (4 + t) = nI i ∧ P 8 i = nI t) ∧ N (8 + t) = 0 ∧ N (12 + t) = 0) ∨
  ((N t = 2 ∨ N t = 3) ∧ (∃ i, i < n ∧ N (4 + t) = nI i ∧ P 8 i = nI t ∧ kd P i = 7) ∧ N (8 + t) = 0 ∧ ∃ q, N (12 + t) = nI q ∧ 1 ≤ q ∧ q ≤ 9) ∨
  (N t = 5 ∧ N (4 + t) = -1 ∧ N (12 + t) = 0 ∧ ∃ y, N (8 + t) = nI y ∧ 1 ≤ y ∧ y ≤ 5)
def SVt (P : Nat → fI) (nt n : Nat) (N : fI) : Prop := (∀ t, t < nt → thV P n N t) ∧ ∀ t, nt ≤ t → t < 4 → N t = 0 ∧ N (4 + t) = -1 ∧ N (8 + t) = 0 ∧ N (12 + t) = 0
def SVl (P : Nat → fI) (nt : Nat) (N : fI) : Prop := ∀ t j, t < 4 → j < 6 → (t < nt ∧ j < lct P t ∧ inR (N (16 + t * 6 + j))) ∨ (¬ (t < nt ∧ j < lct P t) ∧ N (16 + t * 6 + j) = 0)
def SVk (nl nt : Nat) (N : fI) : Prop := ∀ l, l < 4 → (N (40 + l) = -1 ∧ N (44 + l) = 0) ∨ (l < nl ∧ ∃ t q, t < nt ∧ N (40 + l) = nI t ∧ N (44 + l) = nI q ∧ 1 ≤ q ∧ q ≤ 9)
def SVc (nc : Nat) (N : fI) : Prop := ∀ c, c < 8 → (c < nc ∧ inR (N (48 + c))) ∨ (nc ≤ c ∧ N (48 + c) = 0)
def quV (P : Nat → fI) (nc : Nat) (N : fI) (t : Nat) : Prop := ∃ q, N (56 + t) = nI q ∧ q ≤ 3 ∧ ∀ k, k < 3 → (k < q ∧ ∃ c v, c < nc ∧ vol P c = false ∧ inR v ∧ N (60 + t * 3 + k) = pkq v c) ∨ (q ≤ k ∧ N (60 + t * 3 + k) = 0)
def SVq (P : Nat → fI) (w nc nt : Nat) (N : fI) : Prop := ∀ t, t < 4 → (w = 1 ∧ t < nt ∧ quV P nc N t) ∨ (¬ (w = 1 ∧ t < nt) ∧ N (56 + t) = 0 ∧ ∀ k, k < 3 → N (60 + t * 3 + k) = 0)
/-- a view: it tells writes that there are -/
def vwV (nc : Nat) (N : fI) (v : Int32) : Prop := ∀ c, c < 8 → (c < nc ∧ nb v c < clp (N (72 + c))) ∨ (nc ≤ c ∧ nb v c = 0)
def ceV (nc : Nat) (N : fI) (c : Nat) : Prop := ∃ a, N (72 + c) = nI a ∧ 1 ≤ a ∧ a ≤ 9 ∧ N (48 + c) = N (80 + c * 9 + (a - 1)) ∧ ∀ k, k < 9 → (k < a ∧ inR (N (80 + c * 9 + k)) ∧ vwV nc N (N (152 + c * 9 + k))) ∨ (a ≤ k ∧ N (80 + c * 9 + k) = 0 ∧ N (152 + c * 9 + k) = 0)
def SVw (w nc nl nt : Nat) (N : fI) : Prop := (w ≠ 2 ∧ ∀ j, 72 ≤ j → j < 233 → N j = 0) ∨ (w = 2 ∧ (∀ c, c < 8 → (c < nc ∧ ceV nc N c) ∨ (nc ≤ c ∧ N (72 + c) = 0 ∧ ∀ k, k < 9 → N (80 + c * 9 + k) = 0 ∧ N (152 + c * 9 + k) = 0)) ∧ (∀ t, t < 4 → (t < nt ∧ vwV nc N (N (224 + t))) ∨ (nt ≤ t ∧ N (224 + t) = 0)) ∧ (∀ l, l < 4 → (l < nl ∧ vwV nc N (N (228 + l))) ∨ (nl ≤ l ∧ N (228 + l) = 0)) ∧ vwV nc N (N 232))
def SV (P : Nat → fI) (w nc nl nt n : Nat) (N : fI) : Prop := SVt P nt n N ∧ SVl P nt N ∧ SVk nl nt N ∧ SVc nc N ∧ SVq P w nc nt N ∧ SVw w nc nl nt N
/-- the choices of a thread's next line -/
def roS (P : Nat → fI) (w : Nat) (N : fI) (t i o k : Nat) : Bool :=
  if w = 1 then decide (clp (N (56 + t)) < 3) else if w = 0 then true else if clp (N (72 + o)) < 9 then true else if k = 3 then (match exv P 5 N i, exv P 7 N i with
    | some v, some _ => decide (¬ N (48 + o) = v)
    | _, _ => true) else false
def chK (P : Nat → fI) (w : Nat) (N : fI) (t nt i o k : Nat) : Nat :=
  if ¬ N (56 + t) = 0 ∧ (3 ≤ k ∧ k ≤ 12 ∨ k = 2 ∧ vol P o = true) then 0
  else if k = 1 then (if w = 2 ∧ vol P o = false then clp (N (72 + o)) - nb (N (224 + t)) o else 1)
  else if k = 2 ∨ k = 3 ∨ k = 4 then (if roS P w N t i o k then 1 else 0)
  else if k = 5 then (if N (40 + o) < 0 ∨ N (40 + o) = nI t then 1 else 0)
  else if k = 8 then (if N (40 + o) = nI t then max 1 (wts P N o nt) else 1)
  else if k = 11 then (if N o = 4 ∧ N (56 + o) = 0 then 1 else 0)
  else 1
def chs (P : Nat → fI) (w : Nat) (N : fI) (t nt : Nat) : Nat :=
  if N t = 3 then (if N (40 + ob P (clp (N (4 + t)))) < 0 ∧ N (56 + t) = 0 then 1 else 0)
  else if N t = 1 then chK P w N t nt (clp (N (4 + t))) (ob P (clp (N (4 + t)))) (kd P (clp (N (4 + t)))) else 0
/-- the whole step -/
def stp (P : Nat → fI) (w : Nat) (N : fI) (t ch nt : Nat) : fI :=
  if ch = 9 then flu N t (clp (N (60 + t * 3) &&& (7 : Int32))) (N (60 + t * 3) >>> ((3 : Int32) &&& 31))
  else if N t = 3 then tkb N t (ob P (clp (N (4 + t)))) (P 23 (clp (N (4 + t))))
  else linS w P N t ch nt (clp (N (4 + t))) (ob P (clp (N (4 + t)))) (kd P (clp (N (4 + t))))
/-- steps that can be taken -/
def rdS (P : Nat → fI) (w : Nat) (N : fI) (t ch nt : Nat) : Prop := t < nt ∧ (ch < chs P w N t nt ∨ ch = 9 ∧ ¬ N (56 + t) = 0)
def lnA (P : Nat → fI) (N : fI) (t ch : Nat) : Int32 := if ch = 9 then -2 else N (4 + t)
def acA (P : Nat → fI) (w : Nat) (N : fI) (t ch nt : Nat) : Int32 :=
  if ch = 9 then 20 else if N t = 3 then 19
  else if ¬ (actS w P N t ch nt (clp (N (4 + t))) (ob P (clp (N (4 + t)))) (kd P (clp (N (4 + t))))).1 = 0 then 21 else nI (kd P (clp (N (4 + t))))
theorem n_clp {a : Nat} (h : a < 2 ^ 31) : clp (nI a) = a := nI_clamp h
theorem pkq_and {v : Int32} {c : Nat} (hc : c < 8) : pkq v c &&& (7 : Int32) = nI c := by
  unfold pkq
  rw [← Int32.toBitVec_inj]
  refine BitVec.eq_of_getLsbD_eq fun i hi => ?_
  rw [Int32.toBitVec_and, Int32.toBitVec_or, show ((3 : Int32) &&& 31) = nI 3 from rfl, shl_bv (by decide), BitVec.getLsbD_and, BitVec.getLsbD_or, BitVec.getLsbD_shiftLeft, nI_bit (by omega)]
  have e7 : (7 : Int32).toBitVec.getLsbD i = decide (i < 3) := by
    show (7#32).getLsbD i = _
    rcases Nat.lt_or_ge i 3 with q | q
    · match i, q with
      | 0, _ => rfl
      | 1, _ => rfl
      | 2, _ => rfl
      | n + 3, q => exact absurd q (by omega)
    · rw [decide_eq_false (by omega), ← BitVec.testBit_toNat]
      exact Nat.testBit_lt_two_pow (Nat.lt_of_lt_of_le (show (7#32).toNat < 2 ^ 3 by decide) (Nat.pow_le_pow_right (by decide) q))
  rw [e7]
  rcases Nat.lt_or_ge i 3 with q | q
  · rw [decide_eq_true q]; simp
  · rw [decide_eq_false (show ¬ i < 3 by omega), Bool.and_false]
    exact (Nat.testBit_lt_two_pow (Nat.lt_of_lt_of_le hc (Nat.pow_le_pow_right (n := 2) (i := 3) (by decide) q))).symm
theorem inR_toInt {v : Int32} (h : inR v) : -999 ≤ v.toInt ∧ v.toInt ≤ 999 := by
  obtain ⟨h1, h2⟩ := h
  rw [Int32.le_iff_toInt_le] at h1 h2
  exact ⟨h1, h2⟩
theorem inR_toInt' {v : Int32} (h : inR v) : -999 ≤ v.toBitVec.toInt ∧ v.toBitVec.toInt ≤ 999 := by
  obtain ⟨h1, h2⟩ := h
  rw [Int32.le_iff_toInt_le] at h1 h2
  exact ⟨h1, h2⟩
theorem pkq_int {v : Int32} {c : Nat} (hc : c < 8) (hv : inR v) : (pkq v c).toBitVec.toInt = 8 * v.toBitVec.toInt + c := by
  have hr := inR_toInt' hv
  have e : (pkq v c).toBitVec = v.toBitVec * 8#32 + BitVec.ofNat 32 c := by
    unfold pkq
    rw [Int32.toBitVec_or, show ((3 : Int32) &&& 31) = nI 3 from rfl, shl_bv (by decide), BitVec.add_eq_or_of_and_eq_zero]
    · rw [BitVec.shiftLeft_eq_mul_twoPow]; rfl
    · rw [show v.toBitVec * 8#32 = v.toBitVec <<< 3 by rw [BitVec.shiftLeft_eq_mul_twoPow]; rfl]
      refine BitVec.eq_of_getLsbD_eq fun i hi => ?_
      rw [BitVec.getLsbD_and, BitVec.getLsbD_shiftLeft, BitVec.getLsbD_ofNat]
      rcases Nat.lt_or_ge i 3 with q | q
      · rw [decide_eq_true q]; simp
      · rw [Nat.testBit_lt_two_pow (Nat.lt_of_lt_of_le hc (Nat.pow_le_pow_right (n := 2) (i := 3) (by decide) q))]; simp
  rw [e, BitVec.toInt_add, BitVec.toInt_mul]
  have e1 : (8#32).toInt = 8 := rfl
  have e2 : (BitVec.ofNat 32 c).toInt = c := (show ∀ c : Nat, c < 8 → (BitVec.ofNat 32 c).toInt = c by decide) c hc
  rw [e1, e2, Int.bmod_eq_of_le (n := v.toBitVec.toInt * 8) (by omega) (by omega), Int.bmod_eq_of_le (by omega) (by omega)]
  omega
theorem pkq_shr {v : Int32} {c : Nat} (hc : c < 8) (hv : inR v) : pkq v c >>> ((3 : Int32) &&& 31) = v := by
  rw [← Int32.toBitVec_inj, show ((3 : Int32) &&& 31) = nI 3 from rfl, shr_bv (by decide)]
  refine BitVec.eq_of_toInt_eq ?_
  rw [BitVec.toInt_sshiftRight, pkq_int hc hv, Int.shiftRight_eq_div_pow]
  have hr := inR_toInt' hv
  omega
theorem pkq_inj {v u : Int32} {c e : Nat} (hc : c < 8) (he : e < 8) (hv : inR v) (hu : inR u) (h : pkq v c = pkq u e) : v = u ∧ c = e := by
  refine ⟨by rw [← pkq_shr hc hv, ← pkq_shr he hu, h], ?_⟩
  have h1 := pkq_and (v := v) hc
  rw [h, pkq_and he] at h1
  exact ((nI_eq (by omega) (by omega)).mp h1).symm

