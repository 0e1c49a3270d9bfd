/-! THE READER: an expression on both sides: numbers and locals. -/
section EXP
variable {en : pN} {d d' k K q bs u n i i' ct ct' m m' m0 c c' c0 k' nc nl nt a b z dp F p : Nat} {lw : Bool} {V cl cl' : Nat → Nat} {U U' : Nat → Nat → Nat} {pl pl' : Nat → Nat} {s s' s'' t t' t'' : qS} {B : Nat → Nat} {O Q M W v w v1 v2 v3 v4 v5 a2 : Int32}
theorem i64_32 {a : Nat} : (Int64.ofNat a).toInt32 = nI a := by
  apply Int32.toBitVec_inj.mp
  rw [toI32_bv]
  show (BitVec.ofNat 64 a).setWidth 32 = BitVec.ofNat 32 a
  apply BitVec.eq_of_toNat_eq
  rw [BitVec.toNat_setWidth, BitVec.toNat_ofNat, BitVec.toNat_ofNat]
  omega
end EXP

