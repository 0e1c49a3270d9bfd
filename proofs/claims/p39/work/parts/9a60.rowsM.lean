/-! ROWS OF STATES, the model's side: hash, same, load, number. -/
def mixM (x y : Int32) : Int32 := (((31 : Int32) * x) + y) ^^^ ((((31 : Int32) * x) + y).toUInt32 >>> ((15 : Int32).toUInt32 &&& Int32.toUInt32 31)).toInt32
def finM (x : Int32) : Int32 := x * (625341585 : Int32)
def hsM (W : Nat) (f : fI) : Nat := (finM (mxG mixM f W 0 17)).toBitVec.toNat / 65536
theorem hsM_cg {W : Nat} {f g : fI} (e : ∀ i, i < W → f i = g i) : hsM W f = hsM W g := by
  unfold hsM
  rw [mxG_cg W 0 17 (fun i _ h2 => e i (by omega))]
section RMs
variable {en : pN} {d n W lim k : Nat} {s s' : qS} {R : Nat → fI} {f : fI} {r : qR} {v1 v2 v3 : Int32}
end RMs

