/-! THE READER, the model's side: the pile of signs that wait. -/
/-- how strongly a sign binds -/
def rkM (K : Nat) : Nat := if K = 14 then 1 else if K = 13 then 2 else if 7 ≤ K ∧ K ≤ 12 then 3 else if K = 5 ∨ K = 6 then 4 else if K = 4 then 5 else if K = 22 then 0 else 6
/-- how many of k stay where all that bind as strongly as r are settled -/
def stC (pl : Nat → Nat) (r : Nat) : Nat → Nat
  | 0 => 0
  | k + 1 => if rkM (pl k) < r ∨ pl k = 22 then k + 1 else stC pl r k
/-- how many of k stay where prefixes are ended -/
def epC (pl : Nat → Nat) : Nat → Nat
  | 0 => 0
  | k + 1 => if pl k = 2 ∨ pl k = 3 then epC pl k else k + 1
section PIL
variable {en : pN} {d c k r K F p : Nat} {s s' s'' : qS} {pl : Nat → Nat} {v : Int32}
end PIL

