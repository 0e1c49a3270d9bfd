/-! ALL TURNS, the class's side: a step tried. -/
/-- a state's row, as it is kept -/
def cnS (nt : Nat) (N : fI) : fI := fun j => if j < 233 then N j else if j = 233 then nI (soS N nt) else 0
section TS
variable {en : pN} {d p w nc nl nt n t u k a : Nat} {σ : qS} {P : Nat → fI} {F N M G g K : fI} {b sv lv : Int32} {x y : xT}
theorem n_d10 {z : Nat} (h : z < 2 ^ 31) : nI z / (10 : Int32) = nI (z / 10) := by
  have e : (nI z / (10 : Int32)).toInt = (nI (z / 10)).toInt := by
    rw [Int32.toInt_div, n_to h, n_to (by omega)]
    show ((z : Int).tdiv (10 : Int)).bmod (2 ^ 32) = _
    rw [show (10 : Int) = ((10 : Nat) : Int) from rfl, ← Int.ofNat_tdiv]
    rw [Int.bmod_eq_of_le (by omega) (by omega)]
  exact Int32.toInt_inj.mp e
theorem n_m10 {z : Nat} (h : z < 2 ^ 31) : nI z - nI z / (10 : Int32) * (10 : Int32) = nI (z % 10) := by
  rw [n_d10 h, n_mr, n_sub (by show z / 10 * 10 ≤ z; omega)]
  congr 1
  show z - z / 10 * 10 = z % 10
  omega
theorem sl_ne4 (hP : PV P nc nl nt n) (h : a ∈ slA P w nc nl nt) : a ≠ 234 := by
  have h2 := hP.1.2
  have h3 := hP.2.2.1.2
  have h4 := hP.2.1.2
  rcases slA_mem h with h | h
  · rcases h with h | h
    · rcases slO_mem h with z | z | z | ⟨u, j, z1, z2, z3⟩
      · omega
      · omega
      · omega
      · have := (hP.2.2.2.2.2 u z1).2.2
        omega
    · omega
  · omega
theorem slO_sub : a ∈ slO P nc nt → slP P w nc nl nt a := Or.inl
theorem slO_ne4 (hP : PV P nc nl nt n) (h : a ∈ slO P nc nt) : a ≠ 234 ∧ a < 236 := ⟨sl_ne4 (w := 0) (nl := nl) hP (slA_of (Or.inl h)), slA_lt (w := 0) (nl := nl) hP (slA_of (Or.inl h))⟩
/-- a state packed is packed as it is kept -/
theorem cn_of (hP : PV P nc nl nt n) (h5 : N 235 = 0) : ∀ a, a ∈ slA P w nc nl nt → upd N 233 (nI (soS N nt)) a = cnS nt N a := fun a ha => by
  have h1 := slA_lt hP ha
  have h2 := sl_ne4 hP ha
  unfold cnS
  by_cases q : a = 233
  · rw [q, pk_us, if_neg (by omega), if_pos rfl]
  · rw [pk_un q]
    by_cases z : a < 233
    · rw [if_pos z]
    · rw [if_neg z, if_neg q]
      obtain rfl : a = 235 := by omega
      exact h5
theorem cn_eq (hP : PV P nc nl nt n) (hS : SV P w nc nl nt n N) (hM : SV P w nc nl nt n M) : (∀ a, a ∈ slA P w nc nl nt → cnS nt N a = cnS nt M a) ↔ eqS N M := by
  have ht4 := hP.2.2.1.2
  constructor
  · intro h
    refine fun a ha => ?_
    by_cases q : slP P w nc nl nt a
    · have := h a (slA_of q)
      unfold cnS at this
      rwa [if_pos ha, if_pos ha] at this
    · rw [SV_cst hP hS ha q, SV_cst hP hM ha q]
  · intro h a _
    unfold cnS
    by_cases z : a < 233
    · rw [if_pos z, if_pos z]; exact h a z
    · rw [if_neg z, if_neg z, cg_soS h ht4]
theorem cn_sm (hP : PV P nc nl nt n) (hS : SV P w nc nl nt n N) (hM : SV P w nc nl nt n M) : (∀ j, j < (slA P w nc nl nt).length / 2 → pkR (slA P w nc nl nt) (cnS nt N) j = pkR (slA P w nc nl nt) (cnS nt M) j) ↔ eqS N M := by
  have he := (slA_len (w := w) hP).2.1
  rw [← cn_eq hP hS hM]
  exact ⟨fun h => pkR_inj he h, fun h => pkR_cg he h⟩
theorem RW_m {r0 D S T k n w lim : Nat} {st : Nat → Nat} {R : Nat → fJ} (h : RW σ r0 D S T k n w lim st R) (h1 : r0 ≠ 71 ∧ r0 ≠ 72 ∧ r0 ≠ 10 ∧ r0 ≠ 7) (h2 : S ≠ 71 ∧ S ≠ 72 ∧ S ≠ 10 ∧ S ≠ 7) (h3 : T ≠ 71 ∧ T ≠ 72 ∧ T ≠ 10 ∧ T ≠ 7) : RW (mS σ 71 F N b G) r0 D S T k n w lim st R :=
  h.fr (fun j _ => by rw [mS_o h1.1 h1.2.1 h1.2.2.1 h1.2.2.2]) (fun i _ => by rw [mS_o h2.1 h2.2.1 h2.2.2.1 h2.2.2.2]) (fun i _ => by rw [mS_o h3.1 h3.2.1 h3.2.2.1 h3.2.2.2]) (fun _ _ _ _ => rfl)
theorem mS_pic {s' : qS} (h : ∀ c, c = 71 ∨ c = 72 ∨ c = 10 → s'.1 c = (mS σ 71 F N b G).1 c) (h7 : s'.1 7 4 = (mS σ 71 F N b G).1 7 4) : s' = mS (fun a k => if a = 71 ∨ a = 72 ∨ a = 10 ∨ (a = 7 ∧ k = 4) then σ.1 a k else s'.1 a k, s'.2) 71 F N b G := by
  refine Prod.ext (funext fun a => funext fun j => ?_) rfl
  show s'.1 a j = if a = 71 then F j else if a = 71 + 1 then N j else if a = 10 then G j else if a = 7 ∧ j = 4 then b else if a = 71 ∨ a = 72 ∨ a = 10 ∨ (a = 7 ∧ j = 4) then σ.1 a j else s'.1 a j
  by_cases q1 : a = 71
  · rw [if_pos q1, q1, h 71 (Or.inl rfl), mS_m]
  rw [if_neg q1]
  by_cases q2 : a = 71 + 1
  · rw [if_pos q2, q2, h 72 (Or.inr (Or.inl rfl))]
    exact congrFun mS_n j
  rw [if_neg q2]
  by_cases q3 : a = 10
  · rw [if_pos q3, q3, h 10 (Or.inr (Or.inr rfl)), mS_g (Or.inl rfl)]
  rw [if_neg q3]
  by_cases q4 : a = 7 ∧ j = 4
  · rw [if_pos q4, q4.1, q4.2, h7, mS_b (Or.inl rfl)]
  rw [if_neg q4, if_neg]
  rintro (z | z | z | z)
  · exact q1 z
  · exact q2 z
  · exact q3 z
  · exact q4 z
/-- the class's rows of an exploration x -/
abbrev xcI (P : Nat → fI) (w nc nl nt p : Nat) (x : xT) (σ : qS) (F : fI) : Prop := XB σ 71 p P ∧ slI σ 71 F (slA P w nc nl nt) ∧ F 6 = nI (slO P nc nt).length ∧ F 8 = nI w ∧ RW σ 83 84 85 86 15 (xN x) ((slA P w nc nl nt).length / 2) (limS w) (fun i => i * ((slA P w nc nl nt).length / 2)) (fun i => pkR (slA P w nc nl nt) (cnS nt (xS x i))) ∧ σ.1 70 13 = nI (xM x) ∧ (∀ e, e < xM x → σ.1 90 e = nI ((xE x e).1 * 64 + stN (xE x e).2)) ∧ (∀ i, 1 ≤ i → i < xN x → σ.1 91 i = nI ((xF x i).1 * 64 + stN (xF x i).2)) ∧ orX (σ.1 79) (xO x)
/-- what a step tried keeps: all but the rows of states, edges, marks of new states -/
abbrev frTs (m c : Nat) (σ σ' : qS) : Prop := (∀ a, a ≠ 70 → a ≠ 79 → a ≠ 83 → a ≠ 85 → a ≠ 86 → a ≠ 90 → a ≠ 91 → a ≠ 93 → a ≠ 71 → a ≠ 72 → a ≠ 10 → a ≠ 7 → σ'.1 a = σ.1 a) ∧ (∀ j, j ≠ 13 → σ'.1 70 j = σ.1 70 j) ∧ (∀ i, i < m → σ'.1 93 i = σ.1 93 i) ∧ (∀ a, a ≠ 84 → a ≠ 94 → σ'.2.1 a = σ.2.1 a) ∧ (∀ i, i < m * c → σ'.2.1 84 i = σ.2.1 84 i) ∧ σ'.2.2 = σ.2.2
end TS

