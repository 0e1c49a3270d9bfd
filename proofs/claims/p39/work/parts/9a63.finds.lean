/-! FINDINGS of states: races, guards, ends, outcomes. -/
abbrev lnS (N : fI) (t : Nat) : Nat := clp (N (4 + t))
/-- thread t is at a line that touches a cell, and it is ready -/
def tch (P : Nat → fI) (w : Nat) (N : fI) (nt t : Nat) : Bool := decide (N t = 1) && decide (1 ≤ kd P (lnS N t)) && decide (kd P (lnS N t) ≤ 4) && decide (0 < chs P w N t nt)
/-- two lines that touch clash -/
def cls (P : Nat → fI) (i j : Nat) : Bool := decide (P 9 i = P 9 j) && !(vol P (ob P i)) && (decide (kd P i = 2) || decide (kd P j = 2) || (decide (kd P i = 1) != decide (kd P j = 1)))
theorem cls_sy {P : Nat → fI} {i j : Nat} (h : cls P i j = true) : cls P j i = true := by
  unfold cls at h ⊢
  rw [Bool.and_eq_true, Bool.and_eq_true, decide_eq_true_eq] at h
  obtain ⟨⟨h1, h2⟩, h3⟩ := h
  have e : ob P j = ob P i := by show clp (P 9 j) = clp (P 9 i); rw [h1]
  rw [Bool.and_eq_true, Bool.and_eq_true, decide_eq_true_eq, e]
  refine ⟨⟨h1.symm, h2⟩, ?_⟩
  revert h3
  cases decide (kd P i = 2) <;> cases decide (kd P j = 2) <;> cases decide (kd P i = 1) <;> cases decide (kd P j = 1) <;> simp
abbrev rix (i j : Nat) : Nat := 100 * min i j + max i j
theorem rix_sy {i j : Nat} : rix i j = rix j i := by unfold rix; rw [Nat.min_comm, Nat.max_comm]
/-- a race of two threads at these lines in the state -/
def rcT (P : Nat → fI) (w : Nat) (N : fI) (nt t u z : Nat) : Bool := tch P w N nt t && tch P w N nt u && cls P (lnS N t) (lnS N u) && decide (z = rix (lnS N t) (lnS N u))
theorem rcT_sy {P : Nat → fI} {w nt t u z : Nat} {N : fI} : rcT P w N nt t u z = rcT P w N nt u t z := by
  have key : ∀ t u, rcT P w N nt t u z = true → rcT P w N nt u t z = true := by
    intro t u h
    unfold rcT at h ⊢
    rw [Bool.and_eq_true, Bool.and_eq_true, Bool.and_eq_true, decide_eq_true_eq] at h
    rw [Bool.and_eq_true, Bool.and_eq_true, Bool.and_eq_true, decide_eq_true_eq, rix_sy]
    exact ⟨⟨⟨h.1.1.2, h.1.1.1⟩, cls_sy h.1.2⟩, h.2⟩
  cases h : rcT P w N nt t u z with
  | true => exact (key t u h).symm
  | false =>
    cases g : rcT P w N nt u t z with
    | false => rfl
    | true => rw [key u t g] at h; cases h
/-- races of the state: of threads t < T with u < t, and so on -/
def hasR (P : Nat → fI) (w : Nat) (N : fI) (nt z : Nat) : Prop := ∃ t u, u < t ∧ t < nt ∧ rcT P w N nt t u z = true
/-- the first state with the race -/
noncomputable def fsR (f : Nat → Prop) : Nat → Option Nat
  | 0 => none
  | k + 1 => match fsR f k with
    | some i => some i
    | none => @ite _ (f k) (Classical.propDecidable _) (some k) none
/-- guards of the cells behind threads up to t of the state -/
def guT (P : Nat → fI) (w : Nat) (N : fI) (nl nt : Nat) : Nat → fI → fI
  | 0, g => g
  | t + 1, g => if tch P w N nt t then upd (guT P w N nl nt t g) (ob P (lnS N t)) (guT P w N nl nt t g (ob P (lnS N t)) &&& loB N t nl) else guT P w N nl nt t g
def guS (P : Nat → fI) (w : Nat) (S : Nat → fI) (nl nt : Nat) : Nat → fI
  | 0 => fun _ => ((1 : Int32) <<< (nI nl &&& 31)) - 1
  | k + 1 => guT P w (S k) nl nt nt (guS P w S nl nt k)
/-- an end: no step is ready -/
def endC (P : Nat → fI) (w : Nat) (N : fI) (nt : Nat) : Bool := decide (rdl P w N nt nt = [])
/-- outcomes are one -/
def eqO (nt : Nat) (N M : fI) : Prop := soS N nt = soS M nt ∧ (∀ j, 16 ≤ j → j < 40 → N j = M j) ∧ ∀ j, 48 ≤ j → j < 56 → N j = M j
noncomputable def fndO (nt : Nat) (S : Nat → fI) (N : fI) : List Nat → Nat → Option Nat
  | [], _ => none
  | k :: l, i => @ite _ (eqO nt (S k) N) (Classical.propDecidable _) (some i) (fndO nt S N l (i + 1))
/-- states of outcomes among the first k -/
noncomputable def outL (P : Nat → fI) (w nt : Nat) (S : Nat → fI) : Nat → List Nat
  | 0 => []
  | k + 1 => if endC P w (S k) nt = true then (match fndO nt S (S k) (outL P w nt S k) 0 with
    | some _ => outL P w nt S k
    | none => outL P w nt S k ++ [k]) else outL P w nt S k
/-- the outcome of an end -/
noncomputable def outN (P : Nat → fI) (w nt : Nat) (S : Nat → fI) (k : Nat) : Nat := match fndO nt S (S k) (outL P w nt S k) 0 with
  | some i => i
  | none => (outL P w nt S k).length
def endN (P : Nat → fI) (w nt : Nat) (S : Nat → fI) : Nat → Nat
  | 0 => 0
  | k + 1 => endN P w nt S k + if endC P w (S k) nt = true then 1 else 0

