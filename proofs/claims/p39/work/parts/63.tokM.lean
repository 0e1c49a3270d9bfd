/-! THE MODEL'S TEXT AND TOKENS. -/
/-! need, fail -/
/-! the model's words, numbers, signs -/
def f8 (m : Int64) (b : Nat) : Int64 := (m <<< ((8 : Int32).toInt64 &&& 63)) ||| (nI b).toInt64
/-- the model's number: three figures at most are counted -/
def ncd (B : Nat → Nat) : Nat → Nat → Nat → Int32 → Int32
  | 0, _, _, m => m
  | k + 1, p, c, m => if dgt (B p) = true then ncd B k (p + 1) (c + 1) (if c < 3 then (((10 : Int32) * m) + nI (B p)) - (48 : Int32) else 0) else m
