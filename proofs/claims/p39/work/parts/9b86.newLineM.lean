/-! THE READER: a new line on both sides: the model's; the tree of both. -/
section NLM
variable {en : pN} {d k b N nt m c p j l key un : Nat} {K th : Nat → Nat} {bl : Nat → List Nat} {s s' t t' : qS} {u pa pt lv ow kk v la : Int32} {r : qR} {nn : Int32} {f f' : fI} {H H' : Nat → Int32} {lo : Option Nat}
theorem rdW {σ : qS} {a k : Nat} {v : Int32} : (uI σ a k v).1 a k = v := by rw [rdU, if_pos ⟨rfl, rfl⟩]
/-- the state behind the model's new line -/
noncomputable def mnT (t : qS) (N un b m key : Nat) (kk ow pt : Int32) (lo : Option Nat) : qS := uI (uI (uI (mnS t N kk (nI un) (nI (b - 1)) ow pt (nI m)) (lkA 181 171 172 173 key lo).1 (lkA 181 171 172 173 key lo).2 (nI N)) 186 (b - 1) (nI N)) 151 32 (nI (N + 1))
theorem mnS_1 {a : Nat} (h : a < 164 ∨ 180 ≤ a) : (mnS t N kk u lv ow pt v).1 a = t.1 a := by
  funext j
  show (if 164 ≤ a ∧ a < 180 ∧ a ≠ 174 ∧ j = N then _ else _) = _
  rw [if_neg (by omega)]
theorem mnS_j {a : Nat} (h : j ≠ N) : (mnS t N kk u lv ow pt v).1 a j = t.1 a j := by
  show (if 164 ≤ a ∧ a < 180 ∧ a ≠ 174 ∧ j = N then _ else _) = _
  rw [if_neg (by omega)]
theorem mnS_N {a : Nat} (h : 164 ≤ a ∧ a < 180 ∧ a ≠ 174) : (mnS t N kk u lv ow pt v).1 a N = mnV kk u lv ow pt v a := by
  show (if 164 ≤ a ∧ a < 180 ∧ a ≠ 174 ∧ N = N then _ else _) = _
  rw [if_pos ⟨h.1, h.2.1, h.2.2, rfl⟩]
end NLM

