/-! READING WHAT WAS WRITTEN; the text of both sides: feed, end. -/
section GU
variable {σ : qS} {a k b j : Nat}
theorem g_I {v : Int32} : (uI σ a k v).1 b j = if b = a ∧ j = k then v else σ.1 b j := rfl
theorem g_IJ {v : Int32} : (uI σ a k v).2.1 = σ.2.1 := rfl
theorem g_IR {v : Int32} : (uI σ a k v).2.2 = σ.2.2 := rfl
theorem g_J {v : Int64} : (uJ σ a k v).2.1 b j = if b = a ∧ j = k then v else σ.2.1 b j := rfl
theorem g_JI {v : Int64} : (uJ σ a k v).1 = σ.1 := rfl
theorem g_JR {v : Int64} : (uJ σ a k v).2.2 = σ.2.2 := rfl
theorem g_R {v : Nat} : (uR σ a k v).2.2 b j = if b = a ∧ j = k then v else σ.2.2 b j := rfl
theorem g_RI {v : Nat} : (uR σ a k v).1 = σ.1 := rfl
theorem g_RJ {v : Nat} : (uR σ a k v).2.1 = σ.2.1 := rfl
theorem g_Ir {f : Nat → Int32} : (uIr σ a f).1 b j = if b = a then f j else σ.1 b j := by
  show (if b = a then f j else σ.1 b j) = _
  rfl
theorem g_IrJ {f : Nat → Int32} : (uIr σ a f).2.1 = σ.2.1 := rfl
theorem g_IrR {f : Nat → Int32} : (uIr σ a f).2.2 = σ.2.2 := rfl
theorem g_Jr {f : Nat → Int64} : (uJr σ a f).2.1 b j = if b = a then f j else σ.2.1 b j := by
  show (if b = a then f j else σ.2.1 b j) = _
  rfl
theorem g_JrI {f : Nat → Int64} : (uJr σ a f).1 = σ.1 := rfl
theorem g_JrR {f : Nat → Int64} : (uJr σ a f).2.2 = σ.2.2 := rfl
end GU
theorem inB_nI {n N : Nat} (h : n < N) (hN : N < 2 ^ 31) : p_inB (nI n) N = true := decide_eq_true (nI_in h hN)
theorem nm_eq {α β : Type} {e : α} {K : α → Option β} : nm e K = K e := rfl
theorem gd_true {α : Type} {p : Prop} [Decidable p] {x : Option α} (h : p) : gd p x = x := if_pos h
theorem bI_some {α : Type} {x : Int32} {σ : qS} {k : Int32 → qS → Option α} : bI (some (some (.int x), σ)) k = k x σ := rfl
theorem bV_some {α : Type} {σ : qS} {k : qS → Option α} : bV (some (none, σ)) k = k σ := rfl
/-! the class: append, feed, end -/
/-- a byte of a number, as the row of bytes keeps it -/
def byX (v k : Int32) : Int32 := (v >>> (k &&& 31)).toInt8.toInt32
theorem ap_step {en : pN} {d n : Nat} {v k : Int32} {σ : qS} (hk : ¬ k < 0) (hn : σ.1 1 5 = nI n) (h : n < 4000) : qle (L_X9_append_3 en d v (k + (-8 : Int32)) (uI (uI σ 2 n (byX v k)) 1 5 (nI (n + 1)))) (L_X9_append_3 en d v k σ) := by
  intro r hr
  refine le_X9_append_3 en d v k σ r ?_
  have h1 : ¬ (4000 : Int32) ≤ nI n := nI_ge (a := n) (b := 4000) h (by decide)
  rw [if_neg hk, hn, if_neg h1, gd_true (inB_nI h (by decide)), nI_clamp (by omega), pk_vb]
  simp only [nm_eq]
  have e1 : (uI σ 2 n (v >>> (k &&& 31)).toInt8.toInt32).1 1 5 + 1 = nI (n + 1) := by
    rw [g_I, if_neg (by omega), hn, nI_1]
  rw [e1]
  exact hr
/-- four bytes behind n others -/
def apS (σ : qS) (n : Nat) (v : Int32) : qS := uI (uI (uI (uI (uI (uI (uI (uI σ 2 n (byX v 24)) 1 5 (nI (n + 1))) 2 (n + 1) (byX v 16)) 1 5 (nI (n + 2))) 2 (n + 2) (byX v 8)) 1 5 (nI (n + 3))) 2 (n + 3) (byX v 0)) 1 5 (nI (n + 4))
theorem c_append {en : pN} {d n : Nat} {v : Int32} {σ : qS} (hn : σ.1 1 5 = nI n) (h : n + 4 ≤ 4000) : qev en (d + 1) 165 [.ref 1, .int v] σ = some (none, apS σ n v) := by
  refine le_X9_append en d v σ _ ?_
  refine ap_step (n := n) (by decide) hn (by omega) _ ?_
  refine ap_step (n := n + 1) (by decide) rfl (by omega) _ ?_
  refine ap_step (n := n + 2) (by decide) rfl (by omega) _ ?_
  refine ap_step (n := n + 3) (by decide) rfl (by omega) _ ?_
  refine le_X9_append_3 en d v _ _ _ ?_
  rw [if_pos (by decide)]
  rfl
theorem apS_len {σ : qS} {n : Nat} {v : Int32} : (apS σ n v).1 1 5 = nI (n + 4) := rfl
/-- what append leaves -/
theorem apS_I {σ : qS} {n : Nat} {v : Int32} {b j : Nat} : (apS σ n v).1 b j = if b = 1 ∧ j = 5 then nI (n + 4) else if b = 2 ∧ j = n + 3 then byX v 0 else if b = 2 ∧ j = n + 2 then byX v 8 else if b = 2 ∧ j = n + 1 then byX v 16 else if b = 2 ∧ j = n then byX v 24 else σ.1 b j := by
  simp only [apS, g_I]
  by_cases hb : b = 1 ∧ j = 5
  · simp only [if_pos hb]
  · simp only [if_neg hb]
theorem apS_J {σ : qS} {n : Nat} {v : Int32} : (apS σ n v).2.1 = σ.2.1 := rfl
theorem apS_R {σ : qS} {n : Nat} {v : Int32} : (apS σ n v).2.2 = σ.2.2 := rfl
def fdS (σ : qS) (n : Nat) (a b c d e : Int32) : qS := apS (apS (apS (apS (apS σ n a) (n + 4) b) (n + 8) c) (n + 12) d) (n + 16) e
theorem c_feedX {en : pN} {d n : Nat} {a b c e f : Int32} {σ : qS} (hn : σ.1 1 5 = nI n) (h : n ≤ 4000) : qev en (d + 2) 202 [.ref 0, .int a, .int b, .int c, .int e, .int f] σ = some (if n ≤ 3980 then (some (.int (nI (n + 20))), fdS σ n a b c e f) else (some (.int (-3)), σ)) := by
  refine le_X11_feed en (d + 1) a b c e f σ _ ?_
  by_cases h1 : n ≤ 3980
  · have h2 : nI n ≤ (3980 : Int32) := nI_le (a := n) (b := 3980) h1 (by decide)
    rw [if_pos h1, hn, if_pos h2, c_append hn (by omega), bV_some, c_append (n := n + 4) rfl (by omega), bV_some, c_append (n := n + 8) rfl (by omega), bV_some, c_append (n := n + 12) rfl (by omega), bV_some, c_append (n := n + 16) rfl (by omega), bV_some]
    rfl
  · have h2 : ¬ nI n ≤ (3980 : Int32) := nI_ge (a := 3980) (b := n) (by omega) (by omega)
    rw [if_neg h1, hn, if_neg h2]
theorem c_endX {en : pN} {d n : Nat} {a : Int32} {σ : qS} (hn : σ.1 1 5 = nI n) (h : n ≤ 4000) : qev en (d + 1) 203 [.ref 0, .int a] σ = some (if a < 0 ∨ 20 < a ∨ n < 20 then (some (.int (-1)), σ) else (some (.int (nI n - (20 - a))), uI σ 1 5 (nI n - (20 - a)))) := by
  refine le_X11_end en d a σ _ ?_
  rw [hn]
  by_cases h1 : a < 0
  · rw [if_pos h1, if_pos (Or.inl h1)]
  · rw [if_neg h1]
    by_cases h2 : 20 < a
    · rw [if_pos (Or.inr (Or.inl h2)), if_pos h2]
    · rw [if_neg h2]
      by_cases h3 : n < 20
      · rw [if_pos (Or.inr (Or.inr h3)), if_neg (show ¬ (20 : Int32) ≤ nI n from nI_ge (a := n) (b := 20) h3 (by decide))]
      · rw [if_pos (show (20 : Int32) ≤ nI n from nI_le (a := 20) (b := n) (by omega) (by omega)), nm_eq, if_neg (show ¬ (a < 0 ∨ 20 < a ∨ n < 20) from fun z => z.elim h1 fun z => z.elim h2 h3)]
        rfl
/-! the model: feed, end -/
/-- the i-th of the twenty bytes comes of this number -/
def vM (a b c e f : Int32) (i : Nat) : Int32 := if i < 4 then a else if i < 8 then b else if i < 12 then c else if i < 16 then e else f
def byM (v : Int32) (i : Nat) : Int32 := (v >>> (((24 : Int32) - ((8 : Int32) * (nI i - nI i / (4 : Int32) * (4 : Int32)))) &&& 31)) &&& (255 : Int32)
