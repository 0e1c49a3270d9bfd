/-! THE RUN, the model's side: the copy of a program's tables. -/
def dS (σ : qS) (R : List Nat) (z3 z2 : Nat) : qS := (fun b k => if b ∈ R ∧ k = z3 then σ.1 b z2 else σ.1 b k, σ.2)
def cpS (σ : qS) (v1 v2 m : Nat) : qS := (fun b k => if (164 ≤ b ∧ b ≤ 179) ∧ 100 * v2 ≤ k ∧ k < 100 * v2 + m then σ.1 b (k - 100 * v2 + 100 * v1) else σ.1 b k, fun b k => if b = 180 ∧ 100 * v2 ≤ k ∧ k < 100 * v2 + m then σ.2.1 b (k - 100 * v2 + 100 * v1) else σ.2.1 b k, σ.2.2)
def cpT (σ : qS) (v1 v2 m : Nat) : qS := (fun b k => if b = 181 ∧ 4 * v2 ≤ k ∧ k < 4 * v2 + m then σ.1 b (k - 4 * v2 + 4 * v1) else σ.1 b k, σ.2)
section CP
variable {en : pN} {d v1 v2 m z2 z3 a n nt : Nat} {σ : qS} {R : List Nat}
theorem dS_w (h : z2 ≠ z3) : uI (dS σ R z3 z2) a z3 ((dS σ R z3 z2).1 a z2) = dS σ (a :: R) z3 z2 := by
  refine Prod.ext (funext fun b => funext fun k => ?_) rfl
  have e : (dS σ R z3 z2).1 a z2 = σ.1 a z2 := if_neg (fun w => h w.2)
  rw [e]
  show (if b = a ∧ k = z3 then σ.1 a z2 else if b ∈ R ∧ k = z3 then σ.1 b z2 else σ.1 b k) = (if b ∈ a :: R ∧ k = z3 then σ.1 b z2 else σ.1 b k)
  by_cases q : k = z3
  · by_cases z : b = a
    · rw [if_pos ⟨z, q⟩, if_pos ⟨by rw [z]; exact List.mem_cons_self .., q⟩, z]
    · rw [if_neg (fun w => z w.1)]
      by_cases y : b ∈ R
      · rw [if_pos ⟨y, q⟩, if_pos ⟨List.mem_cons_of_mem _ y, q⟩]
      · rw [if_neg (fun w => y w.1), if_neg (fun w => (List.mem_cons.mp w.1).elim z y)]
  · rw [if_neg (fun w => q w.2), if_neg (fun w => q w.2), if_neg (fun w => q w.2)]
theorem dS_0 : dS σ [] z3 z2 = σ := by
  refine Prod.ext (funext fun b => funext fun k => ?_) rfl
  show (if b ∈ ([] : List Nat) ∧ k = z3 then σ.1 b z2 else σ.1 b k) = σ.1 b k
  exact if_neg (fun w => absurd w.1 List.not_mem_nil)
theorem cpS_o (h : a < 164 ∨ 179 < a) : (cpS σ v1 v2 m).1 a = σ.1 a := by
  funext k
  exact if_neg (by omega)
theorem cpT_o (h : a ≠ 181) : (cpT σ v1 v2 m).1 a = σ.1 a := by
  funext k
  exact if_neg (fun w => h w.1)
theorem nmW {K : qS → Option qR} (h : z2 ≠ z3) : nm (uI (dS σ R z3 z2) a z3 ((dS σ R z3 z2).1 a z2)) K = K (dS σ (a :: R) z3 z2) := by
  rw [dS_w h]; rfl
theorem nmN {K : qS → Option qR} (h : z2 ≠ z3) (e : vp_nar .boolean (σ.1 a z2) = σ.1 a z2) : nm (uI (dS σ R z3 z2) a z3 (vp_nar .boolean ((dS σ R z3 z2).1 a z2))) K = K (dS σ (a :: R) z3 z2) := by
  have e' : (dS σ R z3 z2).1 a z2 = σ.1 a z2 := if_neg (fun w => h w.2)
  rw [e', e, ← e', dS_w h]; rfl
theorem cpS_0 : cpS σ v1 v2 0 = σ := by
  refine Prod.ext (funext fun b => funext fun k => ?_) (Prod.ext (funext fun b => funext fun k => ?_) rfl)
  · exact if_neg (by omega)
  · exact if_neg (by omega)
theorem cpT_0 : cpT σ v1 v2 0 = σ := by
  refine Prod.ext (funext fun b => funext fun k => ?_) rfl
  exact if_neg (by omega)
theorem cpS_s (hv : v1 ≠ v2) (hm : m < 100) : uJ (dS (cpS σ v1 v2 m) [179, 178, 177, 176, 175, 174, 173, 172, 171, 170, 169, 168, 167, 166, 165, 164] (100 * v2 + m) (100 * v1 + m)) 180 (100 * v2 + m) ((dS (cpS σ v1 v2 m) [179, 178, 177, 176, 175, 174, 173, 172, 171, 170, 169, 168, 167, 166, 165, 164] (100 * v2 + m) (100 * v1 + m)).2.1 180 (100 * v1 + m)) = cpS σ v1 v2 (m + 1) := by
  have r : ∀ b, b ∈ ([179, 178, 177, 176, 175, 174, 173, 172, 171, 170, 169, 168, 167, 166, 165, 164] : List Nat) ↔ 164 ≤ b ∧ b ≤ 179 := by
    intro b
    simp only [List.mem_cons, List.not_mem_nil, or_false]
    omega
  have hz : 100 * v1 + m < 100 * v2 ∨ 100 * v2 + m < 100 * v1 + m := by omega
  refine Prod.ext (funext fun b => funext fun k => ?_) (Prod.ext (funext fun b => funext fun k => ?_) rfl)
  · show (if b ∈ ([179, 178, 177, 176, 175, 174, 173, 172, 171, 170, 169, 168, 167, 166, 165, 164] : List Nat) ∧ k = 100 * v2 + m then (if (164 ≤ b ∧ b ≤ 179) ∧ 100 * v2 ≤ 100 * v1 + m ∧ 100 * v1 + m < 100 * v2 + m then σ.1 b (100 * v1 + m - 100 * v2 + 100 * v1) else σ.1 b (100 * v1 + m)) else if (164 ≤ b ∧ b ≤ 179) ∧ 100 * v2 ≤ k ∧ k < 100 * v2 + m then σ.1 b (k - 100 * v2 + 100 * v1) else σ.1 b k) = (if (164 ≤ b ∧ b ≤ 179) ∧ 100 * v2 ≤ k ∧ k < 100 * v2 + (m + 1) then σ.1 b (k - 100 * v2 + 100 * v1) else σ.1 b k)
    by_cases q : b ∈ ([179, 178, 177, 176, 175, 174, 173, 172, 171, 170, 169, 168, 167, 166, 165, 164] : List Nat) ∧ k = 100 * v2 + m
    · rw [if_pos q, if_neg (by omega), if_pos ⟨(r b).mp q.1, by omega, by omega⟩, q.2, show 100 * v2 + m - 100 * v2 + 100 * v1 = 100 * v1 + m by omega]
    · rw [if_neg q]
      by_cases z : (164 ≤ b ∧ b ≤ 179) ∧ 100 * v2 ≤ k ∧ k < 100 * v2 + m
      · rw [if_pos z, if_pos ⟨z.1, by omega, by omega⟩]
      · rw [if_neg z, if_neg (fun w => ?_)]
        have := w.2
        by_cases y : k = 100 * v2 + m
        · exact q ⟨(r b).mpr w.1, y⟩
        · exact z ⟨w.1, by omega, by omega⟩
  · show (if b = 180 ∧ k = 100 * v2 + m then (if 180 = 180 ∧ 100 * v2 ≤ 100 * v1 + m ∧ 100 * v1 + m < 100 * v2 + m then σ.2.1 180 (100 * v1 + m - 100 * v2 + 100 * v1) else σ.2.1 180 (100 * v1 + m)) else if b = 180 ∧ 100 * v2 ≤ k ∧ k < 100 * v2 + m then σ.2.1 b (k - 100 * v2 + 100 * v1) else σ.2.1 b k) = (if b = 180 ∧ 100 * v2 ≤ k ∧ k < 100 * v2 + (m + 1) then σ.2.1 b (k - 100 * v2 + 100 * v1) else σ.2.1 b k)
    by_cases q : b = 180 ∧ k = 100 * v2 + m
    · rw [if_pos q, if_neg (by omega), if_pos ⟨q.1, by omega, by omega⟩, q.2, q.1, show 100 * v2 + m - 100 * v2 + 100 * v1 = 100 * v1 + m by omega]
    · rw [if_neg q]
      by_cases z : b = 180 ∧ 100 * v2 ≤ k ∧ k < 100 * v2 + m
      · rw [if_pos z, if_pos ⟨z.1, by omega, by omega⟩]
      · rw [if_neg z, if_neg (by omega)]
theorem cpT_s (hv : v1 ≠ v2) (hm : m < 4) : uI (cpT σ v1 v2 m) 181 (4 * v2 + m) ((cpT σ v1 v2 m).1 181 (4 * v1 + m)) = cpT σ v1 v2 (m + 1) := by
  have hz : 4 * v1 + m < 4 * v2 ∨ 4 * v2 + m < 4 * v1 + m := by omega
  refine Prod.ext (funext fun b => funext fun k => ?_) rfl
  show (if b = 181 ∧ k = 4 * v2 + m then (if 181 = 181 ∧ 4 * v2 ≤ 4 * v1 + m ∧ 4 * v1 + m < 4 * v2 + m then σ.1 181 (4 * v1 + m - 4 * v2 + 4 * v1) else σ.1 181 (4 * v1 + m)) else if b = 181 ∧ 4 * v2 ≤ k ∧ k < 4 * v2 + m then σ.1 b (k - 4 * v2 + 4 * v1) else σ.1 b k) = (if b = 181 ∧ 4 * v2 ≤ k ∧ k < 4 * v2 + (m + 1) then σ.1 b (k - 4 * v2 + 4 * v1) else σ.1 b k)
  by_cases q : b = 181 ∧ k = 4 * v2 + m
  · rw [if_pos q, if_neg (by omega), if_pos ⟨q.1, by omega, by omega⟩, q.2, q.1, show 4 * v2 + m - 4 * v2 + 4 * v1 = 4 * v1 + m by omega]
  · rw [if_neg q]
    by_cases z : b = 181 ∧ 4 * v2 ≤ k ∧ k < 4 * v2 + m
    · rw [if_pos z, if_pos ⟨z.1, by omega, by omega⟩]
    · rw [if_neg z, if_neg (by omega)]
theorem n_100 {a b : Nat} : ((100 : Int32) * nI a) + nI b = nI (100 * a + b) := by
  rw [n_ml]
  exact (Int32.ofNat_add _ _).symm
theorem n_4 {a b : Nat} : ((4 : Int32) * nI a) + nI b = nI (4 * a + b) := by
  rw [n_ml]
  exact (Int32.ofNat_add _ _).symm
theorem m_copyP (hv : v1 ≠ v2) (h1 : v1 ≤ 3) (h2 : v2 ≤ 3) (h32 : σ.1 151 32 = nI n) (hn : n ≤ 100) (h18 : σ.1 151 18 = nI nt) (hnt : nt ≤ 4) (hb : ∀ i, i < n → vp_nar .boolean (σ.1 175 (100 * v1 + i)) = σ.1 175 (100 * v1 + i)) : qev en (d + 1) 293 [.ref 151, .int (nI v1), .int (nI v2)] σ = some (none, cpT (cpS σ v1 v2 n) v1 v2 nt) := by
  have f272 : ∀ (k m : Nat), m + k = nt → L_X12_copyProgram_272 en d (nI v1) (nI v2) (nI m) (cpT (cpS σ v1 v2 n) v1 v2 m) = some (none, cpT (cpS σ v1 v2 n) v1 v2 nt) := by
    intro k
    induction k with
    | zero =>
      intro m hm
      rw [show m = nt by omega]
      refine le_X12_copyProgram_272 en d _ _ _ _ _ ?_
      rw [cpT_o (by decide), cpS_o (by decide), h18, if_pos (by rw [n_LE (by omega) (by omega)]; exact Nat.le_refl _)]
    | succ k ih =>
      intro m hm
      have e18 : (cpT (cpS σ v1 v2 n) v1 v2 m).1 151 18 = nI nt := by
        rw [cpT_o (by decide), cpS_o (by decide), h18]
      refine le_X12_copyProgram_272 en d _ _ _ _ _ ?_
      rw [e18, if_neg (by rw [n_LE (by omega) (by omega)]; omega), n_4, n_4, gd_true (n_in (by omega) (by decide)), gd_true (n_in (by omega) (by decide)), n_cl (by omega), n_cl (by omega), cpT_s hv (by omega), n_ar]
      exact ih (m + 1) (by omega)
  have f2 : ∀ (k m : Nat), m + k = n → L_X12_copyProgram_2 en d (nI v1) (nI v2) (nI m) (cpS σ v1 v2 m) = some (none, cpT (cpS σ v1 v2 n) v1 v2 nt) := by
    intro k
    induction k with
    | zero =>
      intro m hm
      have e32 : (cpS σ v1 v2 m).1 151 32 = nI n := by
        rw [cpS_o (by decide), h32]
      refine le_X12_copyProgram_2 en d _ _ _ _ _ ?_
      rw [e32, if_pos (by rw [n_LE (by omega) (by omega)]; omega), show m = n by omega]
      have h := f272 nt 0 (by omega)
      rw [cpT_0] at h
      exact h
    | succ k ih =>
      intro m hm
      have e32 : (cpS σ v1 v2 m).1 151 32 = nI n := by
        rw [cpS_o (by decide), h32]
      have e175 : vp_nar .boolean ((cpS σ v1 v2 m).1 175 (100 * v1 + m)) = (cpS σ v1 v2 m).1 175 (100 * v1 + m) := by
        have e : (cpS σ v1 v2 m).1 175 (100 * v1 + m) = σ.1 175 (100 * v1 + m) := if_neg (by omega)
        rw [e]
        exact hb m (by omega)
      have hz : 100 * v1 + m ≠ 100 * v2 + m := by omega
      refine le_X12_copyProgram_2 en d _ _ _ _ _ ?_
      rw [e32, if_neg (by rw [n_LE (by omega) (by omega)]; omega), nm_eq, nm_eq, n_100, n_100, gd_true (n_in (by omega) (by decide)), gd_true (n_in (by omega) (by decide)), n_cl (by omega), n_cl (by omega)]
      have d0 := dS_0 (σ := cpS σ v1 v2 m) (z3 := 100 * v2 + m) (z2 := 100 * v1 + m)
      rw [← d0, nmW hz, nmW hz, nmW hz, nmW hz, nmW hz, nmW hz, nmW hz, nmW hz, nmW hz, nmW hz, nmW hz, nmN hz e175, nmW hz, nmW hz, nmW hz, nmW hz, cpS_s hv (by omega), nm_eq, n_ar]
      exact ih (m + 1) (by omega)
  refine le_X12_copyProgram en d _ _ _ _ ?_
  have h := f2 n 0 (by omega)
  rw [cpS_0] at h
  exact h
end CP
