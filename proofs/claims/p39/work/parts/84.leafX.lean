/-! THE CLASS'S MACHINE: its leaves. -/
abbrev clp (x : Int32) : Nat := x.toNatClampNeg
def lok (w : Nat) (P : Nat → fI) (N : fI) (t c ch : Nat) : fI := if w = 2 then (if vol P c then lrn N t (N (152 + c * 9 + clp (N (72 + c)) - 1)) else vew N t c (nb (N (224 + t)) c + ch)) else N
def lal (w : Nat) (N : fI) (t c : Nat) : fI := if w = 2 then lrn (vew N t c (clp (N (72 + c)) - 1)) t (N (152 + c * 9 + (clp (N (72 + c)) - 1))) else N
def wrt (w : Nat) (N : fI) (t c : Nat) (v : Int32) (tel : Bool) : fI := if w = 2 then wr1 w N t c (clp (N (72 + c))) v tel else upd N (48 + c) v
def pkq (v : Int32) (c : Nat) : Int32 := (v <<< ((3 : Int32) &&& 31)) ||| nI c
def sto (w : Nat) (P : Nat → fI) (N : fI) (t c : Nat) (v : Int32) : fI := if w = 1 ∧ vol P c = false then upd (upd N (60 + t * 3 + clp (N (56 + t))) (pkq v c)) (56 + t) (nI (clp (N (56 + t)) + 1)) else wrt w N t c v (vol P c)
def flu (N : fI) (t c : Nat) (v : Int32) : fI := upd (upd (upd (upd (upd N (48 + c) v) (60 + t * 3) (N (60 + t * 3 + 1))) (60 + t * 3 + 1) (N (60 + t * 3 + 2))) (60 + t * 3 + 2) 0) (56 + t) (nI (clp (N (56 + t)) - 1))
def ldq (N : fI) (t c : Nat) : Nat → Int32
  | 0 => N (48 + c)
  | k + 1 => if N (60 + t * 3 + k) &&& (7 : Int32) = nI c then N (60 + t * 3 + k) >>> ((3 : Int32) &&& 31) else ldq N t c k
def ldb (w : Nat) (P : Nat → fI) (N : fI) (t c ch : Nat) : Int32 := if w = 2 ∧ vol P c = false then N (80 + c * 9 + nb (N (224 + t)) c + ch) else ldq N t c (clp (N (56 + t)))
def lev (N : fI) (t l : Nat) : fI := if N (44 + l) = 0 then upd (upd N (228 + l) (N (224 + t))) (40 + l) (-1) else upd N (228 + l) (N (224 + t))
def wtf (P : Nat → fI) (N : fI) (u : Nat) (l : Nat) : Bool := decide (N u = 2 ∧ P 9 (clp (N (4 + u))) = nI l)
def wts (P : Nat → fI) (N : fI) (l : Nat) : Nat → Nat
  | 0 => 0
  | u + 1 => wts P N l u + (if wtf P N u l then 1 else 0)
/-- wake: those who wait up to u, which one or all -/
def wak (P : Nat → fI) (N : fI) (l : Nat) (ch : Option Nat) : Nat → fI
  | 0 => N
  | u + 1 => if wtf P N u l = true ∧ (ch = none ∨ ch = some (wts P N l u)) then upd (wak P N l ch u) u 3 else wak P N l ch u
def tkb (N : fI) (t l : Nat) (x : Int32) : fI := gto (lrn (upd (upd (upd N (40 + l) (nI t)) (44 + l) (N (12 + t))) (12 + t) 0) t (N (228 + l))) t x
section XL2
variable {en : pN} {d m p t c k a w i n l u ch q : Nat} {v x b : Int32} {σ : qS} {P : Nat → fI} {F N G : fI}
theorem x_go (hB : XB σ m p P) (ht : t < 4) : qev en (d + 1) 34 [.ref m, .int (nI t), .int x] (mS σ m F N b G) = some (none, mS σ m F (gto N t x) b G) := by
  refine le_X3_go en d m _ _ _ _ ?_
  simp (disch := omega) only [xb_lm hB, gdT, n_al, n_in, n_cl, nm_eq, mS_wn]
  unfold gto
  by_cases h : 0 ≤ x
  · rw [if_pos h, if_pos h]
    refine le_X3_go_25 en d m _ _ _ _ ?_
    simp (disch := omega) only [xb_lm hB, gdT, n_in, n_cl, nm_eq, mS_wn]
    rw [Nat.zero_add]
  · rw [if_neg h, if_neg h]
    refine le_X3_go_25 en d m _ _ _ _ ?_
    simp (disch := omega) only [xb_lm hB, gdT, n_in, n_cl, nm_eq, mS_wn]
    rw [Nat.zero_add]
theorem x_setl (hB : XB σ m p P) (ht : t < 4) (hF : F 9 = nI i) (hi : i < 100) (hl : P 10 i = -2 ∨ ∃ k, P 10 i = nI k ∧ k < 6) : qev en (d + 2) 54 [.ref m, .int (nI t), .int v] (mS σ m F N b G) = some (none, mS σ m F (setl P N t i v) b G) := by
  refine le_X3_setLocal en (d + 1) m _ _ _ _ ?_
  unfold setl
  rcases hl with hl | ⟨k, hl, hk⟩
  · simp (disch := omega) only [xb_lm hB, gdT, gdP (xb_lp hB), xb_R hB, Nat.add_sub_cancel, nm_eq, mS_m, hF, n_in, n_cl, xb_P hB (show 10 < 25 by decide), hl, w_20, if_true]
  · have h0 : ¬ nI k < 0 := nI_pos (by omega)
    simp (disch := omega) only [xb_lm hB, gdT, gdP (xb_lp hB), xb_R hB, Nat.add_sub_cancel, nm_eq, mS_m, hF, n_in, n_cl, xb_P hB (show 10 < 25 by decide), hl, h0, if_false, x_local, bI_some, mS_wn]
theorem x_look (hB : XB σ m p P) (ht : t < 4) (hc : c < 8) (hw : F 8 = nI w) (hw2 : w ≤ 2) (ha : w = 2 → ∃ a, N (72 + c) = nI a ∧ 1 ≤ a ∧ a ≤ 9) : qev en (d + 3) 72 [.ref m, .int (nI t), .int (nI c), .int (nI ch)] (mS σ m F N b G) = some (none, mS σ m F (lok w P N t c ch) b G) := by
  refine le_X3_look en (d + 2) m _ _ _ _ _ ?_
  unfold lok
  by_cases h : w = 2
  · obtain ⟨a, ha, h1, h9⟩ := ha h
    simp (disch := omega) only [xb_lm hB, gdT, mS_m, hw, n_eq, h, if_true, gdP (xb_lp hB), xb_R hB, Nat.add_sub_cancel, nm_eq]
    rw [x_vol (P := P) (xb_lp hB) (by rw [xb_P0 hB]), bI_some]
    cases hv : vol P c
    · simp (disch := omega) only [bt_f, if_true, x_viewed hB ht hc, bI_some, nI_add, x_view hB ht hc, bV_some]
      simp
    · simp (disch := omega) only [bt_t, if_true, n_al, n_mr, n_in, gdT, n_cl, mS_n, ha, nI_add, n_sr, x_learn hB ht, bV_some]
      rfl
  · simp (disch := omega) only [xb_lm hB, gdT, mS_m, hw, n_eq, h, if_false]
theorem x_lal (hB : XB σ m p P) (ht : t < 4) (hc : c < 8) (hw : F 8 = nI w) (hw2 : w ≤ 2) (ha : w = 2 → ∃ a, N (72 + c) = nI a ∧ 1 ≤ a ∧ a ≤ 9) : qev en (d + 3) 73 [.ref m, .int (nI t), .int (nI c)] (mS σ m F N b G) = some (none, mS σ m F (lal w N t c) b G) := by
  refine le_X3_lookAtLast en (d + 2) m _ _ _ _ ?_
  unfold lal
  by_cases h : w = 2
  · obtain ⟨a, ha, h1, h9⟩ := ha h
    have e : vew N t c (a - 1) (152 + c * 9 + (a - 1)) = N (152 + c * 9 + (a - 1)) := pk_un (by omega)
    simp (disch := omega) only [xb_lm hB, gdT, mS_m, hw, n_eq, h, if_true, not_true, if_false, nm_eq, n_al, n_in, n_cl, mS_n, ha, n_sr, x_view hB ht hc, bV_some, n_mr, nI_add, x_learn hB ht, e, clp]
  · simp (disch := omega) only [xb_lm hB, gdT, mS_m, hw, n_eq, h, if_false, not_false_eq_true, if_true]
theorem x_write {tel : Bool} (hB : XB σ m p P) (ht : t < 4) (hc : c < 8) (hw : F 8 = nI w) (hw2 : w ≤ 2) (ha : w = 2 → ∃ a, N (72 + c) = nI a ∧ a < 9) : qev en (d + 3) 69 [.ref m, .int (nI t), .int (nI c), .int v, .int (bt tel)] (mS σ m F N b G) = some (none, mS σ m F (wrt w N t c v tel) b G) := by
  refine le_X3_write en (d + 2) m _ _ _ _ _ _ ?_
  unfold wrt
  by_cases h : w = 2
  · obtain ⟨a, ha, h9⟩ := ha h
    have e1 : upd N (48 + c) v (72 + c) = nI a := (pk_un (by omega)).trans ha
    have hd : ∀ (y : Int32) (M : fI), L_X3_write_100 en (d + 2) m (nI (152 + c * 9 + a)) y (mS σ m F M b G) = some (none, mS σ m F (upd M (152 + c * 9 + a) y) b G) := by
      intro y M
      refine le_X3_write_100 en (d + 2) m _ _ _ _ ?_
      simp (disch := omega) only [xb_lm hB, gdT, n_in, n_cl, nm_eq, mS_wn]
    have e2 : (upd (upd (upd N (48 + c) v) (72 + c) (nI (a + 1))) (80 + c * 9 + a) v) (224 + t) = N (224 + t) := by
      rw [pk_un (by omega), pk_un (by omega), pk_un (by omega)]
    simp (disch := omega) only [xb_lm hB, gdT, mS_m, hw, n_eq, h, if_true, not_true, if_false, nm_eq, n_al, n_in, n_cl, mS_n, mS_wn, e1, n_ar, n_mr, nI_add, x_view hB ht hc, bV_some, bt_0, hd, clp, ha, wr1]
    cases tel
    · rfl
    · simp only [Bool.true_eq_false, if_false, vew, e2, pk_us, if_true]
  · simp (disch := omega) only [xb_lm hB, gdT, mS_m, hw, n_eq, h, if_false, not_false_eq_true, if_true, nm_eq, n_al, n_in, n_cl, mS_wn]
theorem x_store (hB : XB σ m p P) (ht : t < 4) (hc : c < 8) (hw : F 8 = nI w) (hw2 : w ≤ 2) (ha : w = 2 → ∃ a, N (72 + c) = nI a ∧ a < 9) (hq : w = 1 → ∃ q, N (56 + t) = nI q ∧ q < 3) : qev en (d + 4) 67 [.ref m, .int (nI t), .int (nI c), .int v] (mS σ m F N b G) = some (none, mS σ m F (sto w P N t c v) b G) := by
  refine le_X3_store en (d + 3) m _ _ _ _ _ ?_
  unfold sto
  have hd : L_X3_store_61 en (d + 3) m (nI t) (nI c) v (mS σ m F N b G) = some (none, mS σ m F (wrt w N t c v (vol P c)) b G) := by
    refine le_X3_store_61 en (d + 3) m _ _ _ _ _ ?_
    simp (disch := omega) only [xb_lm hB, gdT, gdP (xb_lp hB), xb_R hB, Nat.add_sub_cancel, nm_eq]
    rw [x_vol (P := P) (xb_lp hB) (by rw [xb_P0 hB]), bI_some, x_write hB ht hc hw hw2 ha, bV_some]
  by_cases h : w = 1
  · obtain ⟨q, hq, hq3⟩ := hq h
    simp (disch := omega) only [xb_lm hB, gdT, mS_m, hw, n_eq, h, if_true, not_true, if_false, gdP (xb_lp hB), xb_R hB, Nat.add_sub_cancel, nm_eq, true_and]
    rw [x_vol (P := P) (xb_lp hB) (by rw [xb_P0 hB]), bI_some]
    cases hv : vol P c
    · have e1 : upd N (60 + t * 3 + q) (v <<< ((3 : Int32) &&& 31) ||| nI c) (56 + t) = nI q := (pk_un (by omega)).trans hq
      simp (disch := omega) only [bt_f, not_true, if_false, if_true, n_al, n_in, gdT, n_mr, mS_n, n_cl, hq, nI_add, nm_eq, mS_wn, e1, n_ar, clp]
      rfl
    · rw [hd, hv, h]
      simp [bt]
  · simp (disch := omega) only [xb_lm hB, gdT, mS_m, hw, n_eq, h, not_false_eq_true, if_true, false_and, if_false]
    exact hd
theorem x_flush (hB : XB σ m p P) (ht : t < 4) (hc : c < 8) (h0 : N (60 + t * 3) &&& (7 : Int32) = nI c) (h1 : N (60 + t * 3) >>> ((3 : Int32) &&& 31) = v) (hq : N (56 + t) = nI q) (hq1 : 1 ≤ q) (hq3 : q ≤ 3) : qev en (d + 1) 68 [.ref m, .int (nI t)] (mS σ m F N b G) = some (none, mS σ m F (flu N t c v) b G) := by
  refine le_X3_flush en d m _ _ _ ?_
  simp (disch := omega) only [xb_lm hB, gdT, n_mr, n_al, nm_eq, n_in, n_cl, mS_n, h0, h1, mS_wn]
  have e0 : upd N (48 + c) v (60 + t * 3 + 1) = N (60 + t * 3 + 1) := pk_un (by omega)
  rw [show (1 : Int32) = nI 1 from rfl]
  refine le_X3_flush_34 en d m _ _ _ _ _ ?_
  simp (disch := omega) only [xb_lm hB, gdT, n_le, if_neg, n_ar, n_in, n_sr, n_cl, nm_eq, mS_n, mS_wn, Nat.add_sub_cancel, e0, nI_add, Nat.reduceAdd]
  refine le_X3_flush_34 en d m _ _ _ _ _ ?_
  have e1 : upd (upd N (48 + c) v) (60 + t * 3) (N (60 + t * 3 + 1)) (60 + t * 3 + 2) = N (60 + t * 3 + 2) := by rw [pk_un (by omega), pk_un (by omega)]
  simp (disch := omega) only [xb_lm hB, gdT, n_le, if_neg, n_ar, n_in, n_sr, n_cl, nm_eq, mS_n, mS_wn, Nat.add_sub_cancel, nI_add, Nat.reduceAdd, e1, show 60 + t * 3 + 2 - 1 = 60 + t * 3 + 1 by omega]
  refine le_X3_flush_34 en d m _ _ _ _ _ ?_
  have e2 : (upd (upd (upd (upd N (48 + c) v) (60 + t * 3) (N (60 + t * 3 + 1))) (60 + t * 3 + 1) (N (60 + t * 3 + 2))) (60 + t * 3 + 2) 0) (56 + t) = nI q := by
    rw [pk_un (by omega), pk_un (by omega), pk_un (by omega), pk_un (by omega), hq]
  simp (disch := omega) only [xb_lm hB, gdT, n_le, if_pos, n_ar, n_in, n_sr, n_cl, nm_eq, mS_n, mS_wn, n_al, nI_add, Nat.reduceAdd, show 60 + t * 3 + 3 - 1 = 60 + t * 3 + 2 by omega, e2]
  unfold flu clp
  rw [hq, n_cl (by omega)]
theorem x_ldq (hB : XB σ m p P) (ht : t < 4) (hc : c < 8) : ∀ k : Nat, k ≤ 3 → L_X3_loadable_73 en d m (nI t) (nI c) (nI k - 1) (mS σ m F N b G) = some (some (.int (ldq N t c k)), mS σ m F N b G) := by
  intro k
  induction k with
  | zero =>
    intro _
    refine le_X3_loadable_73 en d m _ _ _ _ _ ?_
    have e : nI 0 - 1 = (-1 : Int32) := rfl
    simp (disch := omega) only [xb_lm hB, gdT, e, w_10, if_true, n_al, n_in, n_cl, mS_n, ldq]
  | succ k ih =>
    intro hk
    refine le_X3_loadable_73 en d m _ _ _ _ _ ?_
    have h0 : ¬ nI k < 0 := nI_pos (by omega)
    have e : nI k + -1 = nI k - 1 := (Int32.sub_eq_add_neg ..).symm
    simp (disch := omega) only [xb_lm hB, gdT, nI_pred, h0, if_false, n_mr, n_al, nI_add, n_in, n_cl, nm_eq, mS_n, e, ih (by omega)]
    rw [show ldq N t c (k + 1) = if N (60 + t * 3 + k) &&& (7 : Int32) = nI c then N (60 + t * 3 + k) >>> ((3 : Int32) &&& 31) else ldq N t c k from rfl]
    by_cases q : N (60 + t * 3 + k) &&& (7 : Int32) = nI c
    · rw [if_neg (not_not_intro q), if_pos q]
    · rw [if_pos q, if_neg q]
theorem x_ldb (hB : XB σ m p P) (ht : t < 4) (hn : N (4 + t) = nI i) (hi : i < 100) (ho : P 9 i = nI c) (hc : c < 8) (hw : F 8 = nI w) (hw2 : w ≤ 2) (hq : N (56 + t) = nI q) (hq3 : q ≤ 3) (ha : w = 2 → vol P c = false → nb (N (224 + t)) c + ch < 9) (hch : ch < 10) : qev en (d + 2) 66 [.ref m, .int (nI t), .int (nI ch)] (mS σ m F N b G) = some (some (.int (ldb w P N t c ch)), mS σ m F N b G) := by
  refine le_X3_loadable en (d + 1) m _ _ _ _ ?_
  have h60 : L_X3_loadable_60 en (d + 1) m (nI t) (nI c) (mS σ m F N b G) = some (some (.int (ldq N t c q)), mS σ m F N b G) := by
    refine le_X3_loadable_60 en (d + 1) m _ _ _ _ ?_
    simp (disch := omega) only [xb_lm hB, gdT, n_al, n_in, n_cl, mS_n, nm_eq, hq]
    exact x_ldq hB ht hc q hq3
  unfold ldb clp
  rw [hq, n_cl (by omega)]
  simp (disch := omega) only [xb_lm hB, gdT, gdP (xb_lp hB), xb_R hB, Nat.add_sub_cancel, nm_eq, n_al, n_in, n_cl, mS_n, hn, xb_P hB (show 9 < 25 by decide), ho, mS_m, hw, n_eq, h60]
  by_cases h : w = 2
  · simp only [h, not_true, if_false, true_and]
    rw [x_vol (P := P) (xb_lp hB) (by rw [xb_P0 hB]), bI_some]
    cases hv : vol P c
    · have := ha h hv
      simp (disch := omega) only [bt_f, not_true, if_false, x_viewed hB ht hc, bI_some, n_mr, n_al, nI_add, n_in, gdT, n_cl, mS_n, if_true]
    · simp [bt, h60, gdT]
  · simp only [h, not_false_eq_true, if_true, false_and, if_false]
theorem x_wtf (hB : XB σ m p P) (hu : u < 4) (hs : N u = 2 → ∃ i, N (4 + u) = nI i ∧ i < 100) : qev en (d + 1) 47 [.ref m, .int (nI u), .int (nI l)] (mS σ m F N b G) = some (some (.int (bt (wtf P N u l))), mS σ m F N b G) := by
  refine le_X3_waitsFor en d m _ _ _ _ ?_
  unfold wtf
  simp (disch := omega) only [xb_lm hB, gdT, gdP (xb_lp hB), xb_R hB, Nat.add_sub_cancel, nm_eq, n_al, n_in, n_cl, mS_n, Nat.zero_add]
  by_cases h : N u = 2
  · obtain ⟨i, hi, hi1⟩ := hs h
    simp (disch := omega) only [h, not_true, if_false, hi, n_in, gdT, n_cl, xb_P hB (show 9 < 25 by decide), true_and, clp]
    by_cases g : P 9 i = nI l
    · simp [g, bt]
    · simp [g, bt]
  · simp [h, bt]
theorem x_wts (hB : XB σ m p P) (hnt : P 0 11 = nI n) (hn : n ≤ 4) (hs : ∀ u, u < n → N u = 2 → ∃ i, N (4 + u) = nI i ∧ i < 100) : qev en (d + 2) 48 [.ref m, .int (nI l)] (mS σ m F N b G) = some (some (.int (nI (wts P N l n))), mS σ m F N b G) := by
  refine le_X3_waiters en (d + 1) m _ _ _ ?_
  rw [gd_true (xb_lm hB)]
  have go : ∀ k u : Nat, u + k = n → L_X3_waiters_4 en (d + 1) m (nI l) (nI (wts P N l u)) (nI u) (mS σ m F N b G) = some (some (.int (nI (wts P N l n))), mS σ m F N b G) := by
    intro k
    induction k with
    | zero =>
      intro u hu
      obtain rfl : u = n := by omega
      refine le_X3_waiters_4 en (d + 1) m _ _ _ _ _ ?_
      simp (disch := omega) only [xb_lm hB, gdT, gdP (xb_lp hB), xb_R hB, Nat.add_sub_cancel, nm_eq, xb_P0 hB, hnt, n_LE, if_pos]
    | succ k ih =>
      intro u hu
      have h1 := ih (u + 1) (by omega)
      rw [show wts P N l (u + 1) = wts P N l u + (if wtf P N u l = true then 1 else 0) from rfl] at h1
      refine le_X3_waiters_4 en (d + 1) m _ _ _ _ _ ?_
      simp (disch := omega) only [xb_lm hB, gdT, gdP (xb_lp hB), xb_R hB, Nat.add_sub_cancel, nm_eq, xb_P0 hB, hnt, n_LE, if_neg, x_wtf hB (show u < 4 by omega) (hs u (by omega)), bI_some, bt_0, n_ar, nI_add]
      cases hv : wtf P N u l
      · rw [hv] at h1; simpa using h1
      · rw [hv] at h1; simpa using h1
  exact go n 0 (by omega)
end XL2

