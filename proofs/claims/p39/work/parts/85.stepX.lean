/-! THE CLASS'S MACHINE: a step. -/
abbrev expOK (P : Nat → fI) (r i : Nat) : Prop := ∃ a e, P (7 + r) i = nI a ∧ P (8 + r) i = nI e ∧ a ≤ e ∧ e ≤ lmN P ∧ dpk (P 25) (P 26) 236 (e - a) a 0
def exv (P : Nat → fI) (r : Nat) (N : fI) (i : Nat) : Option Int32 := evl P N (clp (P (7 + r) i)) (clp (P (8 + r) i))
def swp (w : Nat) (P : Nat → fI) (N : fI) (t c i : Nat) (u v : Int32) : fI := if N (48 + c) = u then setl P (wrt w (lal w N t c) t c v true) t i 1 else setl P (lal w N t c) t i 0
def add2 (w : Nat) (P : Nat → fI) (N : fI) (t c i : Nat) (v : Int32) : Int32 × fI := if 999 < N (48 + c) + v ∨ N (48 + c) + v < -999 then (1, N) else (0, setl P (wrt w (lal w N t c) t c (N (48 + c) + v) true) t i (N (48 + c)))
def touS (w : Nat) (P : Nat → fI) (N : fI) (t c ch i k : Nat) : Int32 × fI :=
  if k = 1 then (0, lok w P (setl P N t i (ldb w P N t c ch)) t c ch)
  else match exv P 5 N i with
    | none => (1, N)
    | some v => if k = 0 then (0, setl P N t i v) else if k = 2 then (0, sto w P N t c v) else if k = 3 then (match exv P 7 N i with
      | none => (1, N)
      | some u => (0, swp w P N t c i v u)) else add2 w P N t c i v
def lckS (P : Nat → fI) (N : fI) (t l ch k nt : Nat) : Int32 × fI :=
  if k = 5 then (if 9 ≤ N (44 + l) then (5, N) else (0, lrn (upd (upd N (40 + l) (nI t)) (44 + l) (N (44 + l) + 1)) t (N (228 + l))))
  else if ¬ N (40 + l) = nI t then (2, N)
  else if k = 6 then (0, lev (upd N (44 + l) (N (44 + l) - 1)) t l)
  else if k = 7 then (0, lev (upd (upd (upd N (12 + t) (N (44 + l))) (44 + l) 0) t 2) t l)
  else (0, wak P N l (if k = 8 then some ch else none) nt)
def metS (P : Nat → fI) (N : fI) (t u k : Nat) : Int32 × fI :=
  if k = 10 then (if ¬ N u = 0 then (3, N) else (0, upd (gto N u (P 5 u)) (224 + u) (N (224 + t))))
  else if k = 11 then (0, lrn N t (N (224 + u)))
  else if k = 12 then (0, upd (lrn N t (N 232)) 232 (jn (N (224 + t)) (N 232)))
  else (0, N)
def telS (P : Nat → fI) (N : fI) (i k : Nat) : Int32 := match exv P 5 N i with
  | none => 1
  | some v => if k = 14 ∧ v = 0 then 4 else 0
def actS (w : Nat) (P : Nat → fI) (N : fI) (t ch nt i o k : Nat) : Int32 × fI :=
  if k ≤ 4 then touS w P N t o ch i k else if k ≤ 9 then lckS P N t o ch k nt else if k ≤ 13 then metS P N t o k else (telS P N i k, N)
def tgtS (P : Nat → fI) (N : fI) (i k : Nat) : Int32 := if k = 13 then -1 else if (k = 17 ∨ k = 18) ∧ ¬ exr (exv P 5 N i) = 0 then P 22 i else P 23 i
def wrg (N : fI) (t : Nat) (why : Int32) : fI := upd (upd (upd N t 5) (4 + t) (-1)) (8 + t) why
/-- a line's step by a thread that runs -/
def linS (w : Nat) (P : Nat → fI) (N : fI) (t ch nt i o k : Nat) : fI :=
  if ¬ (actS w P N t ch nt i o k).1 = 0 then wrg (actS w P N t ch nt i o k).2 t (actS w P N t ch nt i o k).1
  else if (actS w P N t ch nt i o k).2 t = 1 then gto (actS w P N t ch nt i o k).2 t (tgtS P N i k) else (actS w P N t ch nt i o k).2
section XL3
variable {en : pN} {d m p t c k a w i n l u ch q o : Nat} {v x b : Int32} {σ : qS} {P : Nat → fI} {F N G : fI}
theorem x_wo {r : Nat} (hr : r = 5 ∨ r = 7) (hB : XB σ m p P) (hF : F 9 = nI i) (hi : i < 100) (hx : expOK P r i) : ∃ G' : fI, qev en (d + 3) 53 [.ref m, .int (nI r)] (mS σ m F N b G) = some (some (.int (exr (exv P r N i))), mS σ m F N (exb (exv P r N i)) G') := by
  obtain ⟨a, e, ha, he, h1, h2, h3⟩ := hx
  have h5 : lmN P ≤ 500 := hB.2.2.2.2.1.1
  obtain ⟨G', hG⟩ := x_exp (en := en) (d := d) (F := F) (N := N) (b := b) (G := G) hB h1 h2 h3
  refine ⟨G', le_X3_workOut en (d + 2) m _ _ _ ?_⟩
  unfold exv clp
  rw [ha, he, n_cl (by omega), n_cl (by omega)]
  have e1 : (mS σ m F N b G).1 (p + (7 + r)) = P (7 + r) := xb_P hB (by omega)
  have e2 : (mS σ m F N b G).1 (p + (8 + r)) = P (8 + r) := xb_P hB (by omega)
  simp (disch := omega) only [xb_lm hB, gdT, gdP (xb_lp hB), xb_R hB, Nat.add_sub_cancel, nm_eq, mS_m, hF, n_in, n_ar, n_cl, Nat.add_assoc, e1, show 7 + (r + 1) = 8 + r by omega, e2, ha, he, hG, bI_some]
theorem x_swp (hB : XB σ m p P) (ht : t < 4) (hc : c < 8) (hw : F 8 = nI w) (hw2 : w ≤ 2) (ha : w = 2 → ∃ a, N (72 + c) = nI a ∧ 1 ≤ a ∧ a ≤ 9) (ha2 : w = 2 → N (48 + c) = x → ∃ a, N (72 + c) = nI a ∧ a < 9) (hF : F 9 = nI i) (hi : i < 100) (hl : P 10 i = -2 ∨ ∃ k, P 10 i = nI k ∧ k < 6) : qev en (d + 4) 56 [.ref m, .int (nI t), .int (nI c), .int x, .int v] (mS σ m F N b G) = some (none, mS σ m F (swp w P N t c i x v) b G) := by
  refine le_X3_swapIf en (d + 3) m _ _ _ _ _ _ ?_
  unfold swp
  have hf : ∀ (y : Int32) (M : fI), L_X3_swapIf_52 en (d + 3) m (nI t) y (mS σ m F M b G) = some (none, mS σ m F (setl P M t i y) b G) := by
    intro y M
    refine le_X3_swapIf_52 en (d + 3) m _ _ _ _ ?_
    rw [gd_true (xb_lm hB), x_setl hB ht hF hi hl, bV_some]
  have e72 : lal w N t c (72 + c) = N (72 + c) := by
    unfold lal
    split
    · unfold lrn vew; rw [pk_un (by omega), pk_un (by omega)]
    · rfl
  simp (disch := omega) only [xb_lm hB, gdT, n_al, n_in, n_cl, mS_n]
  by_cases h : N (48 + c) = x
  · rw [if_neg (not_not_intro h), if_pos h]
    refine le_X3_swapIf_18 en (d + 3) m _ _ _ _ _ _ ?_
    have hw' := x_write (en := en) (d := d) (v := v) (b := b) (G := G) (N := lal w N t c) (tel := true) hB ht hc hw hw2 (fun z => by rw [e72]; exact ha2 z h)
    rw [bt_t] at hw'
    rw [gd_true (xb_lm hB), x_lal hB ht hc hw hw2 ha, bV_some, if_neg (by decide), hw', bV_some]
    refine le_X3_swapIf_40 en (d + 3) m _ _ _ _ ?_
    rw [gd_true (xb_lm hB), if_neg (by decide)]
    exact hf _ _
  · rw [if_pos h, if_neg h]
    refine le_X3_swapIf_18 en (d + 3) m _ _ _ _ _ _ ?_
    rw [gd_true (xb_lm hB), x_lal hB ht hc hw hw2 ha, bV_some, if_pos rfl]
    refine le_X3_swapIf_40 en (d + 3) m _ _ _ _ ?_
    rw [gd_true (xb_lm hB), if_pos rfl]
    exact hf _ _
theorem x_add (hB : XB σ m p P) (ht : t < 4) (hc : c < 8) (hw : F 8 = nI w) (hw2 : w ≤ 2) (ha : w = 2 → ∃ a, N (72 + c) = nI a ∧ 1 ≤ a ∧ a < 9) (hF : F 9 = nI i) (hi : i < 100) (hl : P 10 i = -2 ∨ ∃ k, P 10 i = nI k ∧ k < 6) : qev en (d + 4) 57 [.ref m, .int (nI t), .int (nI c), .int v] (mS σ m F N b G) = some (some (.int (add2 w P N t c i v).1), mS σ m F (add2 w P N t c i v).2 b G) := by
  refine le_X3_addTo en (d + 3) m _ _ _ _ _ ?_
  unfold add2
  have e72 : lal w N t c (72 + c) = N (72 + c) := by
    unfold lal
    split
    · unfold lrn vew; rw [pk_un (by omega), pk_un (by omega)]
    · rfl
  have hw' := x_write (en := en) (d := d) (v := N (48 + c) + v) (b := b) (G := G) (N := lal w N t c) (tel := true) hB ht hc hw hw2 (fun z => by rw [e72]; obtain ⟨a, h1, h2, h3⟩ := ha z; exact ⟨a, h1, h3⟩)
  rw [bt_t] at hw'
  have hlal := x_lal (en := en) (d := d) (b := b) (G := G) hB ht hc hw hw2 (fun z => by obtain ⟨a, h1, h2, h3⟩ := ha z; exact ⟨a, h1, h2, by omega⟩)
  simp (disch := omega) only [xb_lm hB, gdT, n_al, n_in, n_cl, mS_n, nm_eq, hlal, bV_some, hw', x_setl hB ht hF hi hl]
  by_cases h : 999 < N (48 + c) + v
  · rw [if_pos h]
    simp only [eq_true (show 999 < N (48 + c) + v ∨ N (48 + c) + v < -999 from Or.inl h), if_true]
  · rw [if_neg h]
    by_cases g : N (48 + c) + v < -999
    · rw [if_neg (Int32.not_le.mpr g)]
      simp only [eq_true (show 999 < N (48 + c) + v ∨ N (48 + c) + v < -999 from Or.inr g), if_true]
    · rw [if_pos (Int32.not_lt.mp g)]
      simp only [eq_false (show ¬ (999 < N (48 + c) + v ∨ N (48 + c) + v < -999) from fun z => z.elim h g), if_false]
theorem x_lev (hB : XB σ m p P) (ht : t < 4) (hl : l < 4) : qev en (d + 1) 59 [.ref m, .int (nI t), .int (nI l)] (mS σ m F N b G) = some (none, mS σ m F (lev N t l) b G) := by
  refine le_X3_leave en d m _ _ _ _ ?_
  have e : upd N (228 + l) (N (224 + t)) (44 + l) = N (44 + l) := pk_un (by omega)
  simp (disch := omega) only [xb_lm hB, gdT, n_al, n_in, n_cl, mS_n, mS_wn, nm_eq, e]
  unfold lev
  by_cases h : N (44 + l) = 0
  · rw [if_neg (not_not_intro h), if_pos h]
  · rw [if_pos h, if_neg h]
theorem x_tkb (hB : XB σ m p P) (ht : t < 4) (hl : l < 4) (hF : F 12 = x) : qev en (d + 3) 61 [.ref m, .int (nI t), .int (nI l)] (mS σ m F N b G) = some (none, mS σ m F (tkb N t l x) b G) := by
  refine le_X3_takeBack en (d + 2) m _ _ _ _ ?_
  have e1 : upd N (40 + l) (nI t) (12 + t) = N (12 + t) := pk_un (by omega)
  have e2 : upd (upd (upd N (40 + l) (nI t)) (44 + l) (N (12 + t))) (12 + t) 0 (228 + l) = N (228 + l) := by rw [pk_un (by omega), pk_un (by omega), pk_un (by omega)]
  simp (disch := omega) only [xb_lm hB, gdT, n_al, n_in, n_cl, mS_n, mS_wn, nm_eq, e1, e2, x_learn hB ht, bV_some, mS_m, hF, x_go hB ht]
  rfl
theorem wts_le : ∀ u : Nat, wts P N l u ≤ u := by
  intro u
  induction u with
  | zero => exact Nat.le_refl _
  | succ u ih =>
    show wts P N l u + (if wtf P N u l = true then 1 else 0) ≤ u + 1
    split <;> omega
theorem wak_o {co : Option Nat} : ∀ u j : Nat, u ≤ j → wak P N l co u j = N j := by
  intro u
  induction u with
  | zero => intro j _; rfl
  | succ u ih =>
    intro j hj
    show (if wtf P N u l = true ∧ (co = none ∨ co = some (wts P N l u)) then upd (wak P N l co u) u 3 else wak P N l co u) j = N j
    split
    · rw [pk_un (by omega)]; exact ih j (by omega)
    · exact ih j (by omega)
theorem x_wak {co : Option Nat} (hco : co = none ∧ x < 0 ∨ ∃ ch, co = some ch ∧ x = nI ch ∧ ch < 100) (hB : XB σ m p P) (hnt : P 0 11 = nI n) (hn : n ≤ 4) (hs : ∀ u, u < n → N u = 2 → ∃ i, N (4 + u) = nI i ∧ i < 100) : qev en (d + 2) 60 [.ref m, .int (nI l), .int x] (mS σ m F N b G) = some (none, mS σ m F (wak P N l co n) b G) := by
  refine le_X3_wake en (d + 1) m _ _ _ _ ?_
  rw [gd_true (xb_lm hB)]
  have go : ∀ k u : Nat, u + k = n → L_X3_wake_5 en (d + 1) m (nI l) x (nI (wts P N l u)) (nI u) (mS σ m F (wak P N l co u) b G) = some (none, mS σ m F (wak P N l co n) b G) := by
    intro k
    induction k with
    | zero =>
      intro u hu
      obtain rfl : u = n := by omega
      refine le_X3_wake_5 en (d + 1) m _ _ _ _ _ _ ?_
      simp (disch := omega) only [xb_lm hB, gdT, gdP (xb_lp hB), xb_R hB, Nat.add_sub_cancel, nm_eq, xb_P0 hB, hnt, n_LE, if_pos]
    | succ k ih =>
      intro u hu
      have h1 := ih (u + 1) (by omega)
      have hle := @wts_le l P N u
      have ew : wtf P (wak P N l co u) u l = wtf P N u l := by
        unfold wtf
        rw [wak_o u u (Nat.le_refl _), wak_o u (4 + u) (by omega)]
      have hw := x_wtf (en := en) (d := d) (l := l) (F := F) (b := b) (G := G) (N := wak P N l co u) hB (show u < 4 by omega) (fun z => by
        rw [wak_o u u (Nat.le_refl _)] at z
        rw [wak_o u (4 + u) (by omega)]
        exact hs u (by omega) z)
      rw [ew] at hw
      have e36 : ∀ M : fI, L_X3_wake_5 en (d + 1) m (nI l) x (nI (wts P N l u + 1)) (nI (u + 1)) (mS σ m F (upd M u 3) b G) = some (none, mS σ m F (wak P N l co n) b G) → L_X3_wake_36 en (d + 1) m (nI l) x (nI (wts P N l u)) (nI u) (mS σ m F M b G) = some (none, mS σ m F (wak P N l co n) b G) := by
        intro M hM
        refine le_X3_wake_36 en (d + 1) m _ _ _ _ _ _ ?_
        simp (disch := omega) only [xb_lm hB, gdT, n_al, n_in, n_cl, nm_eq, mS_wn, n_ar, Nat.zero_add]
        exact hM
      rw [show wak P N l co (u + 1) = (if wtf P N u l = true ∧ (co = none ∨ co = some (wts P N l u)) then upd (wak P N l co u) u 3 else wak P N l co u) from rfl, show wts P N l (u + 1) = wts P N l u + (if wtf P N u l = true then 1 else 0) from rfl] at h1
      refine le_X3_wake_5 en (d + 1) m _ _ _ _ _ _ ?_
      simp (disch := omega) only [xb_lm hB, gdT, gdP (xb_lp hB), xb_R hB, Nat.add_sub_cancel, nm_eq, xb_P0 hB, hnt, n_LE, if_neg, hw, bI_some, bt_0, n_ar]
      cases hv : wtf P N u l
      · rw [hv] at h1
        simpa using h1
      · rw [hv] at h1
        rcases hco with ⟨rfl, hx⟩ | ⟨ch, rfl, rfl, hch⟩
        · simp only [hx, if_true]
          refine e36 _ ?_
          simpa using h1
        · have h0 : ¬ nI ch < 0 := nI_pos (by omega)
          simp (disch := omega) only [h0, if_false, n_EQ]
          by_cases g : ch = wts P N l u
          · subst g
            simp only [or_true, and_self, if_true] at h1
            simp only [not_true, if_false, Bool.true_eq_false]
            exact e36 _ h1
          · have e1 := h1
            simp [g] at e1
            simpa [g] using e1
  exact go n 0 (by omega)
end XL3

