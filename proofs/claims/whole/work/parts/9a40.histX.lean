/-! THE HISTORY of a run, the class's side: its calls. n: how many; C: their rows; O: the open call of each thread. -/
def gS (σ : qS) (n : Int32) (C : Nat → fI) (O : fI) : qS := (fun a k => if 127 ≤ a ∧ a < 133 then C (a - 127) k else if a = 148 then O k else if a = 125 ∧ k = 8 then n else σ.1 a k, σ.2)
section GH
variable {σ : qS} {n v : Int32} {C : Nat → fI} {O : fI} {a k r : Nat}
theorem gS_C (h : r < 6) : (gS σ n C O).1 (127 + r) = C r := by
  funext x
  show (if 127 ≤ 127 + r ∧ 127 + r < 133 then C (127 + r - 127) x else if 127 + r = 148 then O x else if 127 + r = 125 ∧ x = 8 then n else σ.1 (127 + r) x) = _
  rw [if_pos (by omega), Nat.add_sub_cancel_left]
theorem gS_O : (gS σ n C O).1 148 = O := by
  funext x
  show (if 127 ≤ 148 ∧ 148 < 133 then C (148 - 127) x else if (148 : Nat) = 148 then O x else if (148 : Nat) = 125 ∧ x = 8 then n else σ.1 148 x) = _
  rw [if_neg (by omega), if_pos rfl]
theorem gS_n : (gS σ n C O).1 125 8 = n := by
  show (if 127 ≤ 125 ∧ 125 < 133 then C (125 - 127) 8 else if (125 : Nat) = 148 then O 8 else if (125 : Nat) = 125 ∧ (8 : Nat) = 8 then n else σ.1 125 8) = _
  rw [if_neg (by omega), if_neg (by omega), if_pos ⟨rfl, rfl⟩]
theorem gS_o (h1 : a < 127 ∨ 133 ≤ a) (h2 : a ≠ 148) (h3 : a ≠ 125) : (gS σ n C O).1 a = σ.1 a := by
  funext x
  show (if 127 ≤ a ∧ a < 133 then C (a - 127) x else if a = 148 then O x else if a = 125 ∧ x = 8 then n else σ.1 a x) = _
  rw [if_neg (by omega), if_neg h2, if_neg (fun z => h3 z.1)]
theorem gS_wC (h : r < 6) : uI (gS σ n C O) (127 + r) k v = gS σ n (updR C r k v) O := by
  refine Prod.ext (funext fun a => funext fun x => ?_) rfl
  show (if a = 127 + r ∧ x = k then v else if 127 ≤ a ∧ a < 133 then C (a - 127) x else if a = 148 then O x else if a = 125 ∧ x = 8 then n else σ.1 a x) = (if 127 ≤ a ∧ a < 133 then (if a - 127 = r ∧ x = k then v else C (a - 127) x) else if a = 148 then O x else if a = 125 ∧ x = 8 then n else σ.1 a x)
  by_cases q : 127 ≤ a ∧ a < 133
  · rw [if_pos q, if_pos q]
    by_cases z : a - 127 = r ∧ x = k
    · rw [if_pos (by omega), if_pos z]
    · rw [if_neg (by omega), if_neg z]
  · rw [if_neg q, if_neg q, if_neg (by omega)]
theorem gS_wO : uI (gS σ n C O) 148 k v = gS σ n C (upd O k v) := by
  refine Prod.ext (funext fun a => funext fun x => ?_) rfl
  show (if a = 148 ∧ x = k then v else if 127 ≤ a ∧ a < 133 then C (a - 127) x else if a = 148 then O x else if a = 125 ∧ x = 8 then n else σ.1 a x) = (if 127 ≤ a ∧ a < 133 then C (a - 127) x else if a = 148 then (if x = k then v else O x) else if a = 125 ∧ x = 8 then n else σ.1 a x)
  by_cases q : a = 148
  · have h1 : ¬ (127 ≤ a ∧ a < 133) := by omega
    by_cases z : x = k
    · rw [if_pos ⟨q, z⟩, if_neg h1, if_pos q, if_pos z]
    · rw [if_neg (fun w => z w.2), if_neg h1, if_pos q, if_neg h1, if_pos q, if_neg z]
  · rw [if_neg (fun w => q w.1), if_neg q, if_neg q]
theorem gS_wn : uI (gS σ n C O) 125 8 v = gS σ v C O := by
  refine Prod.ext (funext fun a => funext fun x => ?_) rfl
  show (if a = 125 ∧ x = 8 then v else if 127 ≤ a ∧ a < 133 then C (a - 127) x else if a = 148 then O x else if a = 125 ∧ x = 8 then n else σ.1 a x) = (if 127 ≤ a ∧ a < 133 then C (a - 127) x else if a = 148 then O x else if a = 125 ∧ x = 8 then v else σ.1 a x)
  by_cases q : a = 125 ∧ x = 8
  · rw [if_pos q, if_neg (by omega), if_neg (by omega), if_pos q]
  · rw [if_neg q, if_neg q, if_neg q]
theorem gS_w0 : uI (gS σ n C O) 127 k v = gS σ n (updR C 0 k v) O := gS_wC (r := 0) (by decide)
theorem gS_w1 : uI (gS σ n C O) 128 k v = gS σ n (updR C 1 k v) O := gS_wC (r := 1) (by decide)
theorem gS_w2 : uI (gS σ n C O) 129 k v = gS σ n (updR C 2 k v) O := gS_wC (r := 2) (by decide)
theorem gS_w3 : uI (gS σ n C O) 130 k v = gS σ n (updR C 3 k v) O := gS_wC (r := 3) (by decide)
theorem gS_w4 : uI (gS σ n C O) 131 k v = gS σ n (updR C 4 k v) O := gS_wC (r := 4) (by decide)
theorem gS_w5 : uI (gS σ n C O) 132 k v = gS σ n (updR C 5 k v) O := gS_wC (r := 5) (by decide)
/-- a call's six rows when it begins -/
def gcV (t w x i : Int32) : Nat → Int32 := fun r => if r = 0 then t else if r = 1 then w else if r = 2 then x else if r = 3 then i else if r = 4 then -1 else 0
theorem x_addCall {en : pN} {d c : Nat} {t w x i : Int32} (hc : c < 200) : qev en (d + 1) 13 [.ref 125, .int t, .int w, .int x, .int i] (gS σ (nI c) C O) = some (none, gS σ (nI (c + 1)) (stR C c (gcV t w x i)) O) := by
  have hg : p_inB (nI c) 200 = true := n_in hc (by decide)
  have hl : (nI c).toNatClampNeg = c := n_cl (by omega)
  refine le_X1_addCall en d _ _ _ _ _ _ ?_
  simp only [nm_eq, gS_n, gd_true hg, hl, gS_w0, gS_w1, gS_w2, gS_w3, gS_w4, gS_w5, gS_wn, n_ar]
  exact congrArg (fun z => (some (none, gS σ (nI (c + 1)) z O) : Option qR)) (stR_6 (f := C) (j := c) (v := gcV t w x i))
end GH
