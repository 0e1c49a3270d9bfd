/-! THE HISTORY: bits of ints; what comes of a search for an order. -/
section B32
variable {x y : Int32} {i k : Nat}
theorem sm32 (h : i < 32) : (nI i &&& 31) = nI i := by
  have key : ∀ k : Nat, k < 32 → (nI k &&& 31) = nI k := by decide
  exact key i h
theorem one32 : (1 : Int32).toBitVec.getLsbD k = decide (k = 0) := by
  show (1#32).getLsbD k = _
  rw [BitVec.getLsbD_one]
  simp
theorem shb (h : i < 32) (hk : k < 32) : ((1 : Int32) <<< (nI i &&& 31)).toBitVec.getLsbD k = decide (k = i) := by
  rw [sm32 h, shl_bv h, BitVec.getLsbD_shiftLeft, one32]
  by_cases a : k < i
  · have : ¬ k = i := by omega
    simp [a, this]
  · by_cases b : k = i
    · subst b; simp [hk]
    · have : ¬ k - i = 0 := by omega
      simp [a, b, this]
theorem orb (h : i < 32) (hk : k < 32) : (x ||| ((1 : Int32) <<< (nI i &&& 31))).toBitVec.getLsbD k = (x.toBitVec.getLsbD k || decide (k = i)) := by
  rw [Int32.toBitVec_or, BitVec.getLsbD_or, shb h hk]
theorem clb (h : i < 32) (hk : k < 32) : (x &&& (((1 : Int32) <<< (nI i &&& 31)) ^^^ (-1 : Int32))).toBitVec.getLsbD k = (x.toBitVec.getLsbD k && !decide (k = i)) := by
  rw [Int32.toBitVec_and, BitVec.getLsbD_and, Int32.toBitVec_xor, BitVec.getLsbD_xor, shb h hk, show (-1 : Int32).toBitVec = BitVec.allOnes 32 from rfl, BitVec.getLsbD_allOnes, decide_eq_true hk]
  simp
theorem bitI (h : i < 32) : ((x >>> (nI i &&& 31)) &&& (1 : Int32)) = if x.toBitVec.getLsbD i = true then 1 else 0 := by
  rw [← Int32.toBitVec_inj, Int32.toBitVec_and, sm32 h, shr_bv h]
  refine BitVec.eq_of_getLsbD_eq fun j hj => ?_
  rw [BitVec.getLsbD_and, BitVec.getLsbD_sshiftRight, one32]
  by_cases a : j = 0
  · subst a
    by_cases b : x.toBitVec.getLsbD i = true
    · rw [if_pos b, one32]
      simp [h, b]
    · rw [if_neg b]
      have e : x.toBitVec.getLsbD i = false := by
        cases hh : x.toBitVec.getLsbD i with
        | false => rfl
        | true => exact absurd hh b
      rw [decide_eq_false (show ¬ 32 ≤ 0 by omega), Nat.add_zero, if_pos h, e]
      rfl
  · have e : decide (j = 0) = false := decide_eq_false a
    rw [e, Bool.and_false]
    split
    · rw [one32, e]
    · simp
theorem plcB (h : i < 32) : plc x i ↔ x.toBitVec.getLsbD i = true := by
  show ¬ ((x >>> (nI i &&& 31)) &&& (1 : Int32)) = 0 ↔ _
  rw [bitI h]
  by_cases a : x.toBitVec.getLsbD i = true
  · rw [if_pos a]; exact ⟨fun _ => a, fun _ => by decide⟩
  · rw [if_neg a]; exact ⟨fun z => absurd rfl z, fun z => absurd z a⟩
theorem andB : (x &&& y) = y ↔ ∀ k, k < 32 → y.toBitVec.getLsbD k = true → x.toBitVec.getLsbD k = true := by
  rw [← Int32.toBitVec_inj, Int32.toBitVec_and]
  constructor
  · intro e k hk h
    rw [← e, BitVec.getLsbD_and] at h
    exact (Bool.and_eq_true_iff.mp h).1
  · intro h
    refine BitVec.eq_of_getLsbD_eq fun k hk => ?_
    rw [BitVec.getLsbD_and]
    by_cases b : y.toBitVec.getLsbD k = true
    · rw [h k hk b, b]; rfl
    · have : y.toBitVec.getLsbD k = false := by simpa using b
      rw [this, Bool.and_false]
/-- the bits of x are the numbers in L -/
def MK (x : Int32) (L : List Nat) : Prop := ∀ k, k < 32 → (x.toBitVec.getLsbD k = true ↔ k ∈ L)
theorem MK_nil : MK 0 [] := fun k hk => by
  constructor
  · intro z
    have : (0 : Int32).toBitVec.getLsbD k = false := by simp
    rw [this] at z; cases z
  · intro z; cases z
theorem MK_cons {L : List Nat} (h : MK x L) (hi : i < 32) : MK (x ||| ((1 : Int32) <<< (nI i &&& 31))) (i :: L) := fun k hk => by
  rw [orb hi hk, Bool.or_eq_true, h k hk, decide_eq_true_eq, List.mem_cons]
  exact ⟨fun z => z.symm, fun z => z.symm⟩
theorem MK_tail {L : List Nat} (h : MK x (i :: L)) (hi : i < 32) (hn : i ∉ L) : MK (x &&& (((1 : Int32) <<< (nI i &&& 31)) ^^^ (-1 : Int32))) L := fun k hk => by
  rw [clb hi hk, Bool.and_eq_true, h k hk, List.mem_cons]
  constructor
  · rintro ⟨z | z, w⟩
    · subst z; simp at w
    · exact z
  · intro z
    refine ⟨Or.inr z, ?_⟩
    have : ¬ k = i := fun w => hn (w ▸ z)
    simp [this]
theorem MK_plc {L : List Nat} (h : MK x L) (hi : i < 32) : plc x i ↔ i ∈ L := (plcB hi).trans (h i hi)
theorem MK_and {L M : List Nat} (h : MK x L) (g : MK y M) (hM : ∀ k ∈ M, k < 32) : (x &&& y) = y ↔ ∀ k ∈ M, k ∈ L := by
  rw [andB]
  exact ⟨fun z k hk => (h k (hM k hk)).mp (z k (hM k hk) ((g k (hM k hk)).mpr hk)), fun z k hk w => (h k hk).mpr (z k ((g k hk).mp w))⟩
end B32
theorem nodup_len : ∀ (n : Nat) (L : List Nat), L.Nodup → (∀ i ∈ L, i < n) → L.length ≤ n := by
  intro n
  induction n with
  | zero =>
    intro L _ h
    cases L with
    | nil => exact Nat.le_refl 0
    | cons a L => exact absurd (h a (List.mem_cons_self ..)) (Nat.not_lt_zero a)
  | succ n ih =>
    intro L hd h
    have h1 : (L.erase n).Nodup := hd.erase n
    have h2 : ∀ i ∈ L.erase n, i < n := fun i hi => by
      have hm := (hd.mem_erase_iff).mp hi
      have := h i hm.2
      have := hm.1
      omega
    have h3 := ih _ h1 h2
    rw [List.length_erase] at h3
    split at h3 <;> omega
/-- the words by which a structure is changed, asked -/
abbrev kiS (st : Nat) : Int32 := ([0, 2, 3, 5] : List Int32).getD st 0
abbrev aiS (st : Nat) : Int32 := ([1, 1, 4, 6] : List Int32).getD st 0
/-- content, size and last answer behind calls (the last first) -/
def cnt (st : Nat) (C : Nat → fI) (H0 : fI) : List Nat → fI × Nat × Int32
  | [] => (H0, 0, 0)
  | i :: L => pfm st (decide (C 1 i = kiS st)) (cnt st C H0 L).1 (cnt st C H0 L).2.1 (C 2 i)
def canB (C : Nat → fI) (n : Nat) (L : List Nat) (i : Nat) : Bool := !(L.contains i) && (List.range n).all (fun j => decide (C 4 j < 0) || decide (C 3 i ≤ C 4 j) || L.contains j)
def fitB (st : Nat) (C : Nat → fI) (H0 : fI) (L : List Nat) (i : Nat) : Bool := decide (C 4 i < 0) || decide (C 5 i = (cnt st C H0 (i :: L)).2.2)
def fullB (C : Nat → fI) (n : Nat) (L : List Nat) : Bool := (List.range n).all (fun j => decide (C 4 j < 0) || L.contains j)
def srI (st : Nat) (C : Nat → fI) (H0 : fI) (n : Nat) (g : List Nat → Option (List Nat)) (L : List Nat) : Nat → Nat → Option (List Nat)
  | 0, _ => none
  | k + 1, i => if canB C n L i && fitB st C H0 L i then (match g (i :: L) with
    | some M => some M
    | none => srI st C H0 n g L k (i + 1)) else srI st C H0 n g L k (i + 1)
def srch (st : Nat) (C : Nat → fI) (H0 : fI) (n : Nat) : Nat → List Nat → Option (List Nat)
  | 0, L => if fullB C n L then some L else none
  | f + 1, L => if fullB C n L then some L else srI st C H0 n (srch st C H0 n f) L n 0
section CN
variable {st n i z : Nat} {C : Nat → fI} {H0 H H' : fI} {L : List Nat} {v : Int32} {c : Bool}
theorem pfm_cg (hz : z ≤ 12) (h : ∀ k, k < 13 → H k = H' k) : (pfm st c H z v).2 = (pfm st c H' z v).2 ∧ ∀ k, k < 13 → (pfm st c H z v).1 k = (pfm st c H' z v).1 k := by
  unfold pfm
  by_cases a : st ≤ 1
  · rw [if_pos a, if_pos a]
    by_cases b : c = true
    · rw [if_pos b, if_pos b, h 0 (by decide)]
      refine ⟨rfl, fun k hk => ?_⟩
      show upd H 0 _ k = upd H' 0 _ k
      by_cases q : k = 0
      · subst q; rw [pk_us, pk_us]
      · rw [pk_un q, pk_un q]; exact h k hk
    · rw [if_neg b, if_neg b, h 0 (by decide)]
      exact ⟨rfl, fun k hk => h k hk⟩
  · rw [if_neg a, if_neg a]
    by_cases b : c = true
    · rw [if_pos b, if_pos b]
      refine ⟨rfl, fun k hk => ?_⟩
      show upd H z _ k = upd H' z _ k
      by_cases q : k = z
      · subst q; rw [pk_us, pk_us]
      · rw [pk_un q, pk_un q]; exact h k hk
    · rw [if_neg b, if_neg b]
      by_cases e : z = 0
      · rw [if_pos e, if_pos e]
        exact ⟨rfl, fun k hk => h k hk⟩
      · rw [if_neg e, if_neg e]
        by_cases s2 : st = 2
        · rw [if_pos s2, if_pos s2, h (z - 1) (by omega)]
          exact ⟨rfl, fun k hk => h k hk⟩
        · rw [if_neg s2, if_neg s2, h 0 (by decide)]
          refine ⟨rfl, fun k hk => ?_⟩
          show (if k < z - 1 then H (k + 1) else H k) = (if k < z - 1 then H' (k + 1) else H' k)
          by_cases q : k < z - 1
          · rw [if_pos q, if_pos q]; exact h _ (by omega)
          · rw [if_neg q, if_neg q]; exact h k hk
theorem pfm_z : (pfm st c H z v).2.1 ≤ z + 1 := by
  unfold pfm
  split
  · split <;> exact Nat.le_succ z
  · split
    · exact Nat.le_refl _
    · split
      · exact Nat.zero_le _
      · split
        · show z - 1 ≤ z + 1; omega
        · show z - 1 ≤ z + 1; omega
theorem cnt_z : (cnt st C H0 L).2.1 ≤ L.length := by
  induction L with
  | nil => exact Nat.le_refl 0
  | cons i L ih => exact Nat.le_trans pfm_z (Nat.succ_le_succ ih)
theorem canB_iff : canB C n L i = true ↔ i ∉ L ∧ ∀ j, j < n → endB C i j → j ∈ L := by
  unfold canB
  rw [Bool.and_eq_true, List.all_eq_true]
  have e1 : ((!(L.contains i)) = true) ↔ i ∉ L := by simp
  rw [e1]
  refine and_congr Iff.rfl ⟨fun h j hj hb => ?_, fun h j hj => ?_⟩
  · have := h j (List.mem_range.mpr hj)
    rw [Bool.or_eq_true, Bool.or_eq_true, decide_eq_true_eq, decide_eq_true_eq] at this
    rcases this with (q | q) | q
    · exact absurd q hb.1
    · exact absurd q hb.2
    · simpa using q
  · rw [Bool.or_eq_true, Bool.or_eq_true, decide_eq_true_eq, decide_eq_true_eq]
    by_cases a : C 4 j < 0
    · exact Or.inl (Or.inl a)
    · by_cases b : C 3 i ≤ C 4 j
      · exact Or.inl (Or.inr b)
      · right
        have := h j (List.mem_range.mp hj) ⟨a, b⟩
        simpa using this
theorem fullB_iff : fullB C n L = true ↔ ∀ j, j < n → ¬ C 4 j < 0 → j ∈ L := by
  unfold fullB
  rw [List.all_eq_true]
  refine ⟨fun h j hj hb => ?_, fun h j hj => ?_⟩
  · have := h j (List.mem_range.mpr hj)
    rw [Bool.or_eq_true, decide_eq_true_eq] at this
    rcases this with q | q
    · exact absurd q hb
    · simpa using q
  · rw [Bool.or_eq_true, decide_eq_true_eq]
    by_cases a : C 4 j < 0
    · exact Or.inl a
    · right
      have := h j (List.mem_range.mp hj) a
      simpa using this
end CN
theorem x_ext_len {st n : Nat} {C : Nat → fI} {H0 : fI} : ∀ (f : Nat) (L M : List Nat), L.length + f ≤ 12 → srch st C H0 n f L = some M → M.length ≤ 12 := by
  intro f
  induction f with
  | zero =>
    intro L M h e
    have e : (if fullB C n L then some L else none) = some M := e
    split at e
    · cases e; omega
    · cases e
  | succ f ih =>
    intro L M h e
    have e : (if fullB C n L then some L else srI st C H0 n (srch st C H0 n f) L n 0) = some M := e
    split at e
    · cases e; omega
    · have lp : ∀ (k i : Nat), srI st C H0 n (srch st C H0 n f) L k i = some M → M.length ≤ 12 := by
        intro k
        induction k with
        | zero => intro i z; cases z
        | succ k ihk =>
          intro i z
          have z : (if canB C n L i && fitB st C H0 L i then (match srch st C H0 n f (i :: L) with
            | some M => some M
            | none => srI st C H0 n (srch st C H0 n f) L k (i + 1)) else srI st C H0 n (srch st C H0 n f) L k (i + 1)) = some M := z
          split at z
          · split at z
            · rename_i M' hM'
              cases z
              exact ih (i :: L) M (by show L.length + 1 + f ≤ 12; omega) hM'
            · exact ihk _ z
          · exact ihk _ z
      exact lp n 0 e
