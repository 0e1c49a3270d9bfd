/-! EXPRESSIONS worked out by the model. -/
/-- a node of both: the class's operator k and operand q, the model's K and V; t the thread (in a program) -/
def ndR (t : Nat) (k : Nat) (q : Int32) (K : Nat) (V : Int32) : Prop :=
  (k = 1 ∧ K = 0 ∧ V = q) ∨ (k = 2 ∧ K = 1 ∧ ∃ j, j < 6 ∧ q = nI (16 + t * 6 + j) ∧ V = nI j) ∨ (k = 4 ∧ K = 2) ∨ (k = 33 ∧ K = 3) ∨ (k = 42 ∧ K = 4) ∨ (k = 43 ∧ K = 5) ∨ (k = 45 ∧ K = 6) ∨ (k = 189 ∧ K = 7) ∨ (k = 161 ∧ K = 8) ∨ (k = 60 ∧ K = 9) ∨ (k = 188 ∧ K = 10) ∨ (k = 62 ∧ K = 11) ∨ (k = 190 ∧ K = 12) ∨ (k = 38 ∧ K = 13) ∨ (k = 124 ∧ K = 14) ∨
  (k = 2 ∧ K = 15 ∧ ∃ c, c < 8 ∧ q = nI (48 + c) ∧ V = nI c) ∨ (k = 2 ∧ K = 16 ∧ ∃ j, j < 24 ∧ q = nI (16 + j) ∧ V = nI j) ∨ (k = 3 ∧ K = 17 ∧ ∃ u, u < 4 ∧ q = nI (u * 8 + 4) ∧ V = nI u) ∨ (k = 3 ∧ K = 18 ∧ ∃ u, u < 4 ∧ q = nI (u * 8 + 5) ∧ V = nI u) ∨ (k = 3 ∧ K = 19 ∧ ∃ u, u < 4 ∧ q = nI (u * 8 + 2) ∧ V = nI u) ∨ (k = 2 ∧ K = 20 ∧ ∃ l, l < 4 ∧ q = nI (40 + l) ∧ V = nI l) ∨ (k = 2 ∧ K = 21 ∧ q = nI 234)
section ME
variable {en : pN} {d t i n top k K w : Nat} {v q V : Int32} {σ : qS} {F s y g N : fI} {D : Int64} {r : Option qR}
end ME

