/-! THE CLASS'S MACHINE: its picture. m: the machine; F its fields, N the state's row, b G what expressions leave. -/
abbrev fI : Type := Nat → Int32
def mS (σ : qS) (m : Nat) (F N : fI) (b : Int32) (G : fI) : qS := (fun a k => if a = m then F k else if a = m + 1 then N k else if a = 10 then G k else if a = 7 ∧ k = 4 then b else σ.1 a k, σ.2)
def bt (b : Bool) : Int32 := if b = true then 1 else 0
theorem bt_0 {b : Bool} : (bt b = 0) = (b = false) := by cases b <;> simp [bt]
theorem bt_1 {b : Bool} : (bt b = 1) = (b = true) := by cases b <;> simp [bt]
theorem bt_t : bt true = 1 := rfl
theorem bt_f : bt false = 0 := rfl
theorem bt_B {b : Bool} : isB (bt b) = true := by cases b <;> rfl
section MSr
variable {σ : qS} {m a k : Nat} {F N G : fI} {b v : Int32}
theorem mS_m : (mS σ m F N b G).1 m = F := by
  funext j; exact if_pos rfl
theorem mS_n : (mS σ m F N b G).1 (m + 1) = N := by
  funext j; exact (if_neg (by omega)).trans (if_pos rfl)
theorem mS_g (hm : m = 71 ∨ m = 112) : (mS σ m F N b G).1 10 = G := by
  funext j; exact (if_neg (by omega)).trans ((if_neg (by omega)).trans (if_pos rfl))
theorem mS_b (hm : m = 71 ∨ m = 112) : (mS σ m F N b G).1 7 4 = b := (if_neg (by omega)).trans ((if_neg (by omega)).trans ((if_neg (by omega)).trans (if_pos ⟨rfl, rfl⟩)))
theorem mS_o (h1 : a ≠ m) (h2 : a ≠ m + 1) (h3 : a ≠ 10) (h4 : a ≠ 7) : (mS σ m F N b G).1 a = σ.1 a := by
  funext j; exact (if_neg h1).trans ((if_neg h2).trans ((if_neg h3).trans (if_neg fun q => h4 q.1)))
theorem mS_7 (hm : m = 71 ∨ m = 112) (hk : k ≠ 4) : (mS σ m F N b G).1 7 k = σ.1 7 k := (if_neg (by omega)).trans ((if_neg (by omega)).trans ((if_neg (by omega)).trans (if_neg (by omega))))
theorem mS_2 : (mS σ m F N b G).2 = σ.2 := rfl
theorem mS_id : mS σ m (σ.1 m) (σ.1 (m + 1)) (σ.1 7 4) (σ.1 10) = σ := by
  refine Prod.ext (funext fun a => funext fun k => ?_) rfl
  show (if a = m then σ.1 m k else if a = m + 1 then σ.1 (m + 1) k else if a = 10 then σ.1 10 k else if a = 7 ∧ k = 4 then σ.1 7 4 else σ.1 a k) = _
  by_cases h1 : a = m
  · rw [if_pos h1, h1]
  · rw [if_neg h1]
    by_cases h2 : a = m + 1
    · rw [if_pos h2, h2]
    · rw [if_neg h2]
      by_cases h3 : a = 10
      · rw [if_pos h3, h3]
      · rw [if_neg h3]
        by_cases h4 : a = 7 ∧ k = 4
        · rw [if_pos h4, h4.1, h4.2]
        · rw [if_neg h4]
theorem mS_wm : uI (mS σ m F N b G) m k v = mS σ m (upd F k v) N b G := by
  refine Prod.ext (funext fun a => funext fun j => ?_) rfl
  show (if a = m ∧ j = k then v else (mS σ m F N b G).1 a j) = _
  by_cases h : a = m
  · subst h
    rw [mS_m, mS_m]
    by_cases q : j = k
    · rw [if_pos ⟨rfl, q⟩]; exact (if_pos q).symm
    · rw [if_neg (fun z => q z.2)]; exact (if_neg q).symm
  · rw [if_neg (fun z => h z.1)]
    show (if a = m then _ else _) = (if a = m then _ else _)
    rw [if_neg h, if_neg h]
theorem mS_wn : uI (mS σ m F N b G) (m + 1) k v = mS σ m F (upd N k v) b G := by
  refine Prod.ext (funext fun a => funext fun j => ?_) rfl
  show (if a = m + 1 ∧ j = k then v else (mS σ m F N b G).1 a j) = _
  by_cases h : a = m + 1
  · subst h
    rw [mS_n, mS_n]
    by_cases q : j = k
    · rw [if_pos ⟨rfl, q⟩]; exact (if_pos q).symm
    · rw [if_neg (fun z => q z.2)]; exact (if_neg q).symm
  · rw [if_neg (fun z => h z.1)]
    show (if a = m then _ else if a = m + 1 then _ else _) = (if a = m then _ else if a = m + 1 then _ else _)
    rw [if_neg h, if_neg h]
theorem mS_wr {f : fI} : uIr (mS σ m F N b G) (m + 1) f = mS σ m F f b G := by
  refine Prod.ext (funext fun a => funext fun j => ?_) rfl
  show (if a = m + 1 then f j else (mS σ m F N b G).1 a j) = _
  by_cases h : a = m + 1
  · subst h
    rw [if_pos rfl, mS_n]
  · rw [if_neg h]
    show (if a = m then _ else if a = m + 1 then _ else _) = (if a = m then _ else if a = m + 1 then _ else _)
    rw [if_neg h, if_neg h]
theorem mS_wg (hm : m = 71 ∨ m = 112) : uI (mS σ m F N b G) 10 k v = mS σ m F N b (upd G k v) := by
  refine Prod.ext (funext fun a => funext fun j => ?_) rfl
  show (if a = 10 ∧ j = k then v else (mS σ m F N b G).1 a j) = _
  by_cases h : a = 10
  · subst h
    rw [mS_g hm, mS_g hm]
    by_cases q : j = k
    · rw [if_pos ⟨rfl, q⟩]; exact (if_pos q).symm
    · rw [if_neg (fun z => q z.2)]; exact (if_neg q).symm
  · rw [if_neg (fun z => h z.1)]
    show (if a = m then _ else if a = m + 1 then _ else if a = 10 then _ else _) = (if a = m then _ else if a = m + 1 then _ else if a = 10 then _ else _)
    rw [if_neg h, if_neg h]
theorem mS_wb (hm : m = 71 ∨ m = 112) : uI (mS σ m F N b G) 7 4 v = mS σ m F N v G := by
  refine Prod.ext (funext fun a => funext fun j => ?_) rfl
  show (if a = 7 ∧ j = 4 then v else if a = m then F j else if a = m + 1 then N j else if a = 10 then G j else if a = 7 ∧ j = 4 then b else σ.1 a j) = if a = m then F j else if a = m + 1 then N j else if a = 10 then G j else if a = 7 ∧ j = 4 then v else σ.1 a j
  by_cases h : a = 7 ∧ j = 4
  · rw [if_pos h, if_neg (by omega), if_neg (by omega), if_neg (by omega), if_pos h]
  · rw [if_neg h, if_neg h, if_neg h]
end MSr
/-- the nodes that belong to a program: those below this number -/
def lmN (P : Nat → fI) : Nat := (P 27 0).toNatClampNeg
/-- what holds of the machine's surroundings: m its cell, p its program's, P that one's rows, w the way -/
abbrev XB (σ : qS) (m p : Nat) (P : Nat → fI) : Prop := (m = 71 ∨ m = 112) ∧ (p = 11 ∨ p = 36) ∧ σ.2.2 m 7 = p + 1 ∧ (∀ a, a < 25 → σ.1 (p + a) = P a) ∧ (lmN P ≤ 500 ∧ ∀ j, j < lmN P → σ.1 8 j = P 25 j) ∧ (∀ j, j < lmN P → σ.1 9 j = P 26 j)
section XBf
variable {σ : qS} {m p a : Nat} {P : Nat → fI} {F N G : fI} {b : Int32}
theorem xb_lm (h : XB σ m p P) : lc m = 3 := by rcases h.1 with rfl | rfl <;> rfl
theorem xb_ln (h : XB σ m p P) : lc (m + 1) = 20 := by rcases h.1 with rfl | rfl <;> rfl
theorem xb_nn (h : XB σ m p P) : ln (m + 1) = 236 := by rcases h.1 with rfl | rfl <;> rfl
theorem xb_lp (h : XB σ m p P) : lc p = 5 := by rcases h.2.1 with rfl | rfl <;> rfl
theorem xb_P (h : XB σ m p P) (ha : a < 25) : (mS σ m F N b G).1 (p + a) = P a := by
  have h1 := h.1
  have h2 := h.2.1
  rw [mS_o (by omega) (by omega) (by omega) (by omega)]
  exact h.2.2.2.1 a ha
theorem xb_P0 (h : XB σ m p P) : (mS σ m F N b G).1 p = P 0 := xb_P (a := 0) h (by decide)
theorem xb_8 (h : XB σ m p P) {j : Nat} (hj : j < lmN P) : (mS σ m F N b G).1 8 j = P 25 j := by
  have h1 := h.1
  rw [mS_o (by omega) (by omega) (by omega) (by omega)]
  exact h.2.2.2.2.1.2 j hj
theorem xb_9 (h : XB σ m p P) {j : Nat} (hj : j < lmN P) : (mS σ m F N b G).1 9 j = P 26 j := by
  have h1 := h.1
  rw [mS_o (by omega) (by omega) (by omega) (by omega)]
  exact h.2.2.2.2.2 j hj
theorem xb_R (h : XB σ m p P) : (mS σ m F N b G).2.2 m 7 = p + 1 := h.2.2.1
theorem gdP {α : Type} {x : Option α} {p : Nat} (g : lc p = 5) : gd (p + 1 ≠ 0 ∧ lc p = 5) x = x := if_pos ⟨by omega, g⟩
end XBf
/-! leaves -/
def vol (P : Nat → fI) (c : Nat) : Bool := decide (¬ ((P 0 7 >>> (nI c &&& 31)) &&& (1 : Int32)) = 0)
def setl (P : Nat → fI) (N : fI) (t i : Nat) (v : Int32) : fI := if P 10 i < 0 then N else upd N (16 + t * 6 + (P 10 i).toNatClampNeg) v
def gto (N : fI) (t : Nat) (x : Int32) : fI := upd (upd N (4 + t) x) t (if 0 ≤ x then 1 else 4)
def lrn (N : fI) (t : Nat) (v : Int32) : fI := upd N (224 + t) (jn (N (224 + t)) v)
def vew (N : fI) (t c k : Nat) : fI := upd N (224 + t) (sn (N (224 + t)) c k)
def wr1 (w : Nat) (N : fI) (t c n : Nat) (v : Int32) (tel : Bool) : fI := upd (vew (upd (upd (upd N (48 + c) v) (72 + c) (nI (n + 1))) (80 + c * 9 + n) v) t c n) (152 + c * 9 + n) (if tel then sn (N (224 + t)) c n else 0)
section XL
variable {en : pN} {d m p t c k a w i n : Nat} {v u x b : Int32} {σ : qS} {P : Nat → fI} {F N G : fI}
theorem x_vol (hp : lc p = 5) (hP : σ.1 p 7 = P 0 7) : qev en (d + 1) 94 [.ref p, .int (nI c)] σ = some (some (.int (bt (vol P c))), σ) := by
  refine le_X5_isVolatile en d p _ σ _ ?_
  rw [gd_true hp, hP]
  unfold vol
  by_cases h : ((P 0 7 >>> (nI c &&& 31)) &&& (1 : Int32)) = 0
  · rw [if_pos h, decide_eq_false (not_not_intro h)]; rfl
  · rw [if_neg h, decide_eq_true h]; rfl
theorem x_local (ht : t < 4) : qev en (d + 1) 32 [.int (nI t), .int (nI k)] σ = some (some (.int (nI (16 + t * 6 + k))), σ) := by
  refine le_X3_localSlot en d _ _ σ _ ?_
  simp (disch := omega) only [n_al, n_mr, nI_add]
theorem x_max : qev en (d + 1) 411 [.int (nI a), .int (nI k)] σ = some (some (.int (if nI a < nI k then nI k else nI a)), σ) := by
  refine le_J9_max_7cf53 en d _ _ σ _ ?_
  split <;> rfl
theorem x_maxN (ha : a < 2 ^ 31) (hk : k < 2 ^ 31) : qev en (d + 1) 411 [.int (nI a), .int (nI k)] σ = some (some (.int (nI (max a k))), σ) := by
  rw [x_max]
  rcases Nat.lt_or_ge a k with h | h
  · rw [if_pos (nI_lt h hk), Nat.max_eq_right (by omega)]
  · rw [if_neg (nI_nlt h ha), Nat.max_eq_left h]
theorem x_minN (ha : a < 2 ^ 31) (hk : k < 2 ^ 31) : qev en (d + 1) 412 [.int (nI a), .int (nI k)] σ = some (some (.int (nI (min a k))), σ) := by
  refine le_J9_min_7cf53 en d _ _ σ _ ?_
  rcases Nat.lt_or_ge k a with h | h
  · rw [if_pos (nI_lt h ha), Nat.min_eq_right (by omega)]
  · rw [if_neg (nI_nlt h hk), Nat.min_eq_left h]
theorem x_viewed (hB : XB σ m p P) (ht : t < 4) (hc : c < 8) : qev en (d + 1) 70 [.ref m, .int (nI t), .int (nI c)] (mS σ m F N b G) = some (some (.int (nI (nb (N (224 + t)) c))), mS σ m F N b G) := by
  refine le_X3_viewed en d m _ _ _ _ ?_
  simp (disch := omega) only [xb_lm hB, gdT, n_al, n_in, n_cl, vw_X hc, mS_n]
theorem x_view (hB : XB σ m p P) (ht : t < 4) (hc : c < 8) : qev en (d + 1) 71 [.ref m, .int (nI t), .int (nI c), .int (nI k)] (mS σ m F N b G) = some (none, mS σ m F (vew N t c k) b G) := by
  refine le_X3_view en d m _ _ _ _ _ ?_
  simp (disch := omega) only [xb_lm hB, gdT, n_al, n_in, n_cl, sh_4 hc, nm_eq, mS_n, mS_wn]
  rfl
theorem x_learn (hB : XB σ m p P) (ht : t < 4) : qev en (d + 2) 74 [.ref m, .int (nI t), .int v] (mS σ m F N b G) = some (none, mS σ m F (lrn N t v) b G) := by
  refine le_X3_learn en (d + 1) m _ _ _ _ ?_
  simp (disch := omega) only [xb_lm hB, gdT, n_al, n_in, n_cl, nm_eq, mS_n]
  have go : ∀ k c : Nat, c + k = 8 → L_X3_learn_17 en (d + 1) m (nI t) v (N (224 + t)) (mkv (fun e => max (nb (N (224 + t)) e) (nb v e)) c) (nI (4 * c)) (mS σ m F N b G) = some (none, mS σ m F (lrn N t v) b G) := by
    intro k
    induction k with
    | zero =>
      intro c hc
      obtain rfl : c = 8 := by omega
      refine le_X3_learn_17 en (d + 1) m _ _ _ _ _ _ _ ?_
      simp (disch := omega) only [xb_lm hB, gdT, n_le, if_pos, n_al, n_in, n_cl, nm_eq, mS_wn]
      rfl
    | succ k ih =>
      intro c hc
      refine le_X3_learn_17 en (d + 1) m _ _ _ _ _ _ _ ?_
      have e : ∀ y : Int32, ((y.toUInt32 >>> ((nI (4 * c)).toUInt32 &&& Int32.toUInt32 31)).toInt32 &&& (15 : Int32)) = nI (nb y c) := by
        intro y
        rw [← vw_X (show c < 8 by omega), n_ml]
      have h1 := @nb_lt v c
      have h2 := @nb_lt (N (224 + t)) c
      simp (disch := omega) only [xb_lm hB, gdT, n_le, if_neg, e, nm_eq, x_maxN, bI_some, n_ar]
      have s4 : nI (4 * c) &&& 31 = nI (4 * c) := by have z := sh_4 (show c < 8 by omega); rwa [n_ml] at z
      rw [s4, or_nb (by omega) (by omega) (fun e he hce => by rw [mkv_nb (fun e => by have := @nb_lt (N (224 + t)) e; have := @nb_lt v e; omega) c e (by omega) he, if_neg (by omega)])]
      exact ih (c + 1) (by omega)
  exact go 8 0 rfl
end XL

