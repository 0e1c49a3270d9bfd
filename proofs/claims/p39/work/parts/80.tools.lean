/-! TOOLS: numbers by their Nat, guards, switches, reading of what was written. -/
section NN
variable {k o a b N : Nat}
theorem n_al : (no_index (OfNat.ofNat k : Int32)) + nI o = nI ((OfNat.ofNat k : Nat) + o) := nI_add k o
theorem n_ar : nI o + (no_index (OfNat.ofNat k : Int32)) = nI (o + (OfNat.ofNat k : Nat)) := nI_add o k
theorem n_mul : nI a * nI b = nI (a * b) := (Int32.ofNat_mul a b).symm
theorem n_ml : (no_index (OfNat.ofNat k : Int32)) * nI o = nI ((OfNat.ofNat k : Nat) * o) := n_mul
theorem n_mr : nI o * (no_index (OfNat.ofNat k : Int32)) = nI (o * (OfNat.ofNat k : Nat)) := n_mul
theorem n_sub (h : b ≤ a) : nI a - nI b = nI (a - b) := nI_sub h
theorem n_sl (h : o ≤ (OfNat.ofNat k : Nat)) : (no_index (OfNat.ofNat k : Int32)) - nI o = nI ((OfNat.ofNat k : Nat) - o) := nI_sub h
theorem n_sr (h : (OfNat.ofNat k : Nat) ≤ o) : nI o - (no_index (OfNat.ofNat k : Int32)) = nI (o - (OfNat.ofNat k : Nat)) := nI_sub h
theorem n_le (hk : (OfNat.ofNat k : Nat) < 2 ^ 31) (ho : o < 2 ^ 31) : ((no_index (OfNat.ofNat k : Int32)) ≤ nI o) = ((OfNat.ofNat k : Nat) ≤ o) := propext (nI_leI hk ho)
theorem n_ge (hk : (OfNat.ofNat k : Nat) < 2 ^ 31) (ho : o < 2 ^ 31) : (nI o ≤ (no_index (OfNat.ofNat k : Int32))) = (o ≤ (OfNat.ofNat k : Nat)) := propext (nI_leI ho hk)
theorem n_lt (hk : (OfNat.ofNat k : Nat) < 2 ^ 31) (ho : o < 2 ^ 31) : ((no_index (OfNat.ofNat k : Int32)) < nI o) = ((OfNat.ofNat k : Nat) < o) := propext (nI_ltI hk ho)
theorem n_gt (hk : (OfNat.ofNat k : Nat) < 2 ^ 31) (ho : o < 2 ^ 31) : (nI o < (no_index (OfNat.ofNat k : Int32))) = (o < (OfNat.ofNat k : Nat)) := propext (nI_ltI ho hk)
theorem n_eq (hk : (OfNat.ofNat k : Nat) < 2 ^ 31) (ho : o < 2 ^ 31) : (nI o = (no_index (OfNat.ofNat k : Int32))) = (o = (OfNat.ofNat k : Nat)) := propext (nI_eq ho hk)
theorem n_qe (hk : (OfNat.ofNat k : Nat) < 2 ^ 31) (ho : o < 2 ^ 31) : ((no_index (OfNat.ofNat k : Int32)) = nI o) = ((OfNat.ofNat k : Nat) = o) := propext (nI_eq hk ho)
theorem n_LE (ha : a < 2 ^ 31) (hb : b < 2 ^ 31) : (nI a ≤ nI b) = (a ≤ b) := propext (nI_leI ha hb)
theorem n_LT (ha : a < 2 ^ 31) (hb : b < 2 ^ 31) : (nI a < nI b) = (a < b) := propext (nI_ltI ha hb)
theorem n_EQ (ha : a < 2 ^ 31) (hb : b < 2 ^ 31) : (nI a = nI b) = (a = b) := propext (nI_eq ha hb)
theorem n_cl (h : a < 2 ^ 31) : (nI a).toNatClampNeg = a := nI_clamp h
theorem n_ck : (no_index (OfNat.ofNat k : Int32)) = nI (OfNat.ofNat k : Nat) := rfl
theorem n_m1 (h : a < 2 ^ 31) : (nI a = -1) = False := by
  refine eq_false fun q => nI_pos h ?_
  rw [q]; decide
theorem n_m2 (h : a < 2 ^ 31) : (nI a = -2) = False := by
  refine eq_false fun q => nI_pos h ?_
  rw [q]; decide
theorem n_1m (h : a < 2 ^ 31) : (-1 = nI a) = False := eq_false fun q => (n_m1 h).mp q.symm
theorem n_2m (h : a < 2 ^ 31) : (-2 = nI a) = False := eq_false fun q => (n_m2 h).mp q.symm
theorem n_in (h : a < N) (hN : N < 2 ^ 31) : p_inB (nI a) N = true := decide_eq_true (nI_in h hN)
theorem n_to (h : a < 2 ^ 31) : (nI a).toInt = (a : Int) := nI_toInt h
theorem n_m1c : (-1 : Int32) + nI (a + 1) = nI a := by
  rw [← nI_pred a, Int32.sub_eq_add_neg, Int32.add_comm]
theorem n_cm1 : nI (a + 1) + (-1 : Int32) = nI a := by rw [Int32.add_comm]; exact n_m1c
end NN
theorem w_01 : ((0 : Int32) ≤ -1) = False := by decide
theorem w_02 : ((0 : Int32) ≤ -2) = False := by decide
theorem w_10 : ((-1 : Int32) < 0) = True := by decide
theorem w_20 : ((-2 : Int32) < 0) = True := by decide
theorem w_12 : ((-1 : Int32) = -2) = False := by decide
theorem w_21 : ((-2 : Int32) = -1) = False := by decide
theorem w_1i : p_inB 1 1 = false := rfl
section GW
variable {α : Type} {x y : Option α}
theorem gdT : gd True x = x := if_pos trivial
theorem swI_hit {A : Option α} {as : List (Option α)} {D : Option α} {z : Int} : swI z z (A :: as) D = A := if_pos rfl
theorem swI_next {A : Option α} {as : List (Option α)} {D : Option α} {z l : Int} (h : z ≠ l) : swI z l (A :: as) D = swI z (l + 1) as D := if_neg h
theorem swI_nil {D : Option α} {z l : Int} : swI z l [] D = D := rfl
theorem swL_hit {A : Option α} {as : List (Int × Option α)} {D : Option α} {z : Int} : swL z ((z, A) :: as) D = A := if_pos rfl
theorem swL_next {A : Option α} {as : List (Int × Option α)} {D : Option α} {z l : Int} (h : l ≠ z) : swL z ((l, A) :: as) D = swL z as D := if_neg h
theorem swL_nil {D : Option α} {z : Int} : swL z [] D = D := rfl
end GW

