/-! ALL TURNS, the model's side: a step tried. -/
abbrev orM (x : Int32) (O : Nat → Nat → Bool) : Prop := ∀ a, a < 4 → ∀ q, q < 4 → x.toBitVec.getLsbD (4 * a + q) = O a q
/-- rows of states, as the model's fields and rows tell them -/
def RWF (σ : qS) (F : fI) (n W : Nat) (R : Nat → fI) : Prop := F 101 = nI n ∧ F 60 = nI W ∧ n ≤ 20000 ∧ (∀ i, i < n → ∀ j, j < W → σ.1 210 (i * W + j) = R i j) ∧ TB (σ.1 211) 65536 n (fun i => hsM W (R i))
/-- a new row told -/
def nwS (s : qS) (n W : Nat) (f : fI) (p : Nat) (v1 v2 v3 : Int32) : qS := uI (uI (uI (uI (uI (uIr (uI s 211 p (nI (n + 1))) 210 (fun j => if n * W ≤ j ∧ j < n * W + W then f (j - n * W) else s.1 210 j)) 212 n v1) 213 n v2) 214 n v3) 216 n 0) 217 n (-2)
abbrev mcI (P : Nat → fI) (w nc nl nt n : Nat) (x : xT) (σ : qS) (F : fI) : Prop := MB σ 2 P nc nl nt n ∧ MF F w 2 nc nl nt ∧ RWF σ F (xN x) (wid w) (fun i => sm w (xS x i)) ∧ F 102 = nI (xM x) ∧ (∀ e, e < xM x → σ.1 219 e = nI (xE x e).1 ∧ σ.1 220 e = nI (xE x e).2) ∧ (∀ i, i < xN x → σ.1 214 i = bt (xWh x i)) ∧ (∀ i, 1 ≤ i → i < xN x → σ.1 212 i = nI (xF x i).1 ∧ σ.1 213 i = nI (xF x i).2) ∧ (σ.1 212 0 = -2 ∧ σ.1 213 0 = -2) ∧ orM (F 73) (xO x)
abbrev fTm (m : Nat) (σ σ' : qS) (F F' : fI) : Prop := (∀ c, c ≠ 190 → c < 210 ∨ c = 215 ∨ c = 218 ∨ 220 < c → σ'.1 c = σ.1 c) ∧ (∀ i, i < m → σ'.1 216 i = σ.1 216 i ∧ σ'.1 217 i = σ.1 217 i) ∧ (∀ j, j < 62 ∨ 74 ≤ j → j ≠ 101 → j ≠ 102 → F' j = F j) ∧ σ'.2 = σ.2
section MT
variable {en : pN} {d w nc nl nt n t u k a j l : Nat} {σ σ' τ : qS} {P : Nat → fI} {F F' s y g N : fI} {D : Int64} {x : xT} {v1 v2 v3 v5 v6 : Int32} {O : Nat → Nat → Bool} {z : Int32}
theorem mM_Ir {f : fI} {b : Nat} (h1 : b ≠ 151) (h2 : b ≠ 187) (h3 : b ≠ 188) (h4 : b ≠ 189) : uIr (mM σ F s y g D) b f = mM (uIr σ b f) F s y g D := by
  refine Prod.ext (funext fun x => funext fun j => ?_) rfl
  show (if x = b then f j else if x = 151 then F j else if x = 187 then s j else if x = 188 then y j else if x = 189 then g j else σ.1 x j) = if x = 151 then F j else if x = 187 then s j else if x = 188 then y j else if x = 189 then g j else if x = b then f j else σ.1 x j
  by_cases q : x = b
  · rw [if_pos q, if_neg (by omega), if_neg (by omega), if_neg (by omega), if_neg (by omega), if_pos q]
  · rw [if_neg q, if_neg q]
theorem mM_Is {f : fI} : uIr (mM σ F s y g D) 187 f = mM σ F f y g D := by
  refine Prod.ext (funext fun x => funext fun j => ?_) rfl
  show (if x = 187 then f j else if x = 151 then F j else if x = 187 then s j else if x = 188 then y j else if x = 189 then g j else σ.1 x j) = if x = 151 then F j else if x = 187 then f j else if x = 188 then y j else if x = 189 then g j else σ.1 x j
  by_cases q : x = 187
  · rw [if_pos q, if_neg (by omega), if_pos q]
  · rw [if_neg q, if_neg q, if_neg q]
theorem nw_mM {n W p : Nat} {f : fI} : nwM (mM σ F s y g D) n W f p v1 v2 v3 = mM (nwS σ n W f p v1 v2 v3) (upd F 101 (nI (n + 1))) s y g D := by
  unfold nwM nwS
  rw [mM_o (a := 210) (by decide) (by decide) (by decide) (by decide), mM_wo (by decide) (by decide) (by decide) (by decide), mM_Ir (by decide) (by decide) (by decide) (by decide), mM_wo (by decide) (by decide) (by decide) (by decide), mM_wo (by decide) (by decide) (by decide) (by decide), mM_wo (by decide) (by decide) (by decide) (by decide), mM_wo (by decide) (by decide) (by decide) (by decide), mM_wo (by decide) (by decide) (by decide) (by decide), mM_wF]
theorem RWF_M {n W : Nat} {R : Nat → fI} : RWM (mM σ F s y g D) n W R ↔ RWF σ F n W R := by
  unfold RWM RWF
  rw [mM_F, mM_o (a := 210) (by decide) (by decide) (by decide) (by decide), mM_o (a := 211) (by decide) (by decide) (by decide) (by decide)]
theorem RWF.cg {n W : Nat} {R R' : Nat → fI} (h : RWF σ F n W R) (hR : ∀ i, i < n → ∀ j, j < W → R' i j = R i j) : RWF σ F n W R' := by
  obtain ⟨a1, a2, a3, a4, a5⟩ := h
  exact ⟨a1, a2, a3, fun i hi j hj => (a4 i hi j hj).trans (hR i hi j hj).symm, tb_hcg (fun i hi => hsM_cg (hR i hi)) a5⟩
theorem oB_bit (hl : l < 4) : ∀ (k : Nat), k ≤ 4 → ∀ p, p < 4 → ∀ q, q < 4 → (oB N t l k z).toBitVec.getLsbD (4 * p + q) = (z.toBitVec.getLsbD (4 * p + q) || (decide (q = l) && decide (p < k) && decide (p ≠ l) && decide (N (40 + p) = nI t))) := by
  intro k
  induction k with
  | zero =>
    intro _ p hp q hq
    show z.toBitVec.getLsbD _ = _
    rw [decide_eq_false (Nat.not_lt_zero p)]
    simp
  | succ k ih =>
    intro hk p hp q hq
    have h := ih (by omega) p hp q hq
    have e : oB N t l (k + 1) z = if k ≠ l ∧ N (40 + k) = nI t then oB N t l k z ||| ((1 : Int32) <<< (nI (4 * k + l) &&& 31)) else oB N t l k z ||| 0 := rfl
    rw [e]
    by_cases c : k ≠ l ∧ N (40 + k) = nI t
    · rw [if_pos c, orb (by omega) (by omega), h]
      by_cases e2 : p = k
      · subst e2
        by_cases e3 : q = l
        · rw [decide_eq_true (show 4 * p + q = 4 * p + l by omega), decide_eq_true e3, decide_eq_true (show p < p + 1 by omega), decide_eq_true c.1, decide_eq_true c.2]
          simp
        · rw [decide_eq_false (show ¬ 4 * p + q = 4 * p + l by omega), decide_eq_false e3]
          simp
      · rw [decide_eq_false (show ¬ 4 * p + q = 4 * k + l by omega), Bool.or_false, decide_eq_decide.mpr (show p < k ↔ p < k + 1 by omega)]
    · rw [if_neg c, Int32.or_zero, h]
      by_cases e2 : p = k
      · subst e2
        rw [decide_eq_false (Nat.lt_irrefl p)]
        by_cases c1 : p ≠ l
        · rw [decide_eq_false (show ¬ N (40 + p) = nI t from fun y => c ⟨c1, y⟩)]
          simp
        · rw [decide_eq_false c1]
          simp
      · rw [decide_eq_decide.mpr (show p < k ↔ p < k + 1 by omega)]
theorem laS_or (hP : PV P nc nl nt n) (hS : SV P w nc nl nt n N) (ht : t < nt) : laS P N t = -1 ∨ ∃ l, l < nl ∧ laS P N t = nI l := by
  have hl4 := hP.2.1.2
  have hn := hP.2.2.2.1.2
  unfold laS
  split
  · rename_i y
    right
    rcases y with y | ⟨y1, y2⟩
    · obtain ⟨⟨i, hi, e, -, k7⟩, -⟩ := sv_wok (hS.1.1 t ht) y
      have ei : clp (N (4 + t)) = i := by rw [e]; exact n_clp (by omega)
      obtain ⟨-, -, -, ho, -⟩ := hP.2.2.2.2.1 i hi
      rw [ei]; exact ⟨_, (ho (by omega) (by omega)).2, rfl⟩
    · obtain ⟨⟨i, hi, e, -⟩, -⟩ := sv_run (hS.1.1 t ht) y1
      have ei : clp (N (4 + t)) = i := by rw [e]; exact n_clp (by omega)
      rw [ei] at y2
      obtain ⟨-, -, -, ho, -⟩ := hP.2.2.2.2.1 i hi
      rw [ei]; exact ⟨_, (ho (by omega) (by omega)).2, rfl⟩
  · exact Or.inl rfl
theorem orM_step (hP : PV P nc nl nt n) (hS : SV P w nc nl nt n N) (ht : a / 10 < nt) (h : orM z O) : orM (ordS P N (a / 10) (a % 10) nl z) (ordO P nl N a O) := by
  have hl4 := hP.2.1.2
  intro p hp q hq
  unfold ordS ordO
  by_cases h9 : a % 10 = 9
  · rw [if_pos h9, decide_eq_false (fun y => y h9), h p hp q hq]
    simp
  rw [if_neg h9, decide_eq_true h9]
  rcases laS_or hP hS ht with e | ⟨l, hl, e⟩
  · rw [if_pos e, h p hp q hq, e, decide_eq_false (show ¬ (-1 : Int32) = nI q by rw [n_1m (by omega)]; exact id)]
    simp
  · rw [e, if_neg (by rw [eq_comm, n_1m (by omega)]; exact id), n_clp (by omega), decide_eq_decide.mpr (show nI l = nI q ↔ q = l by rw [n_EQ (by omega) (by omega)]; exact eq_comm)]
    by_cases c : N (40 + l) = nI (a / 10)
    · rw [if_pos c, h p hp q hq]
      by_cases e3 : q = l
      · subst e3
        rw [decide_eq_false (show ¬ ¬ N (40 + q) = nI (a / 10) from fun y => y c)]
        simp
      · rw [decide_eq_false e3]
        simp
    · rw [if_neg c, oB_bit (by omega) nl (by omega) p hp q hq, h p hp q hq]
      by_cases e3 : q = l
      · subst e3
        rw [decide_eq_true c]
        simp
      · rw [decide_eq_false e3]
        simp
end MT
