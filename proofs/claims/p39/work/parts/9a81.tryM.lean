/-! ALL TURNS, the model's side: a step tried. -/
/-- rows of states, as the model's fields and rows tell them -/
def RWF (σ : qS) (F : fI) (n W : Nat) (R : Nat → fI) : Prop := F 101 = nI n ∧ F 60 = nI W ∧ n ≤ 20000 ∧ (∀ i, i < n → ∀ j, j < W → σ.1 210 (i * W + j) = R i j) ∧ TB (σ.1 211) 65536 n (fun i => hsM W (R i))
abbrev fTm (m : Nat) (σ σ' : qS) (F F' : fI) : Prop := (∀ c, c ≠ 190 → c < 210 ∨ c = 215 ∨ c = 218 ∨ 220 < c → σ'.1 c = σ.1 c) ∧ (∀ i, i < m → σ'.1 216 i = σ.1 216 i ∧ σ'.1 217 i = σ.1 217 i) ∧ (∀ j, j < 62 ∨ 74 ≤ j → j ≠ 101 → j ≠ 102 → F' j = F j) ∧ σ'.2 = σ.2
section MT
variable {en : pN} {d w nc nl nt n t u k a j l : Nat} {σ σ' τ : qS} {P : Nat → fI} {F F' s y g N : fI} {D : Int64} {x : xT} {v1 v2 v3 v5 v6 : Int32} {O : Nat → Nat → Bool} {z : Int32}
theorem RWF.cg {n W : Nat} {R R' : Nat → fI} (h : RWF σ F n W R) (hR : ∀ i, i < n → ∀ j, j < W → R' i j = R i j) : RWF σ F n W R' := by
  obtain ⟨a1, a2, a3, a4, a5⟩ := h
  exact ⟨a1, a2, a3, fun i hi j hj => (a4 i hi j hj).trans (hR i hi j hj).symm, tb_hcg (fun i hi => hsM_cg (hR i hi)) a5⟩
end MT

