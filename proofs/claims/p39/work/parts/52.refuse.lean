/-! CALLS THAT ARE REFUSED: without a program, a run, something explored, a rewritten program. -/
section REF
variable {en : pN} {d : Nat} {a b c : Int32} {σ : qS}
theorem rX_begin (h : σ.1 0 9 = 0) : qev en (d + 1) 207 [.ref 0, .int a] σ = some (some (.int (-1)), σ) := le_X11_begin en d a σ _ (if_pos h)
theorem rX_ready (h : σ.1 111 4 = 0) : qev en (d + 1) 208 [.ref 0, .int a] σ = some (some (.int (-1)), σ) := le_X11_ready en d a σ _ (if_neg (fun z => z h))
theorem rX_turn (h : σ.1 111 4 = 0) : qev en (d + 1) 209 [.ref 0, .int a, .int b] σ = some (some (.int (-1)), σ) := le_X11_turn en d a b σ _ (if_neg (fun z => z h))
theorem rX_thread (h : σ.1 111 4 = 0) : qev en (d + 1) 210 [.ref 0, .int a, .int b] σ = some (some (.int (-1)), σ) := le_X11_thread en d a b σ _ (if_pos h)
theorem rX_local (h : σ.1 111 4 = 0) : qev en (d + 1) 211 [.ref 0, .int a, .int b] σ = some (some (.int (-1)), σ) := le_X11_local en d a b σ _ (if_neg (fun z => z h))
theorem rX_cell (h : σ.1 111 4 = 0) : qev en (d + 1) 212 [.ref 0, .int a] σ = some (some (.int (-1000)), σ) := le_X11_cell en d a σ _ (if_pos h)
theorem rX_explore (h : σ.1 0 9 = 0) : qev en (d + 1) 220 [.ref 0, .int a, .int b] σ = some (some (.int (-1)), σ) := le_X11_explore en d a b σ _ (if_pos h)
theorem rX_explored (h : σ.1 70 17 = 0) : qev en (d + 1) 221 [.ref 0, .int a] σ = some (some (.int (-1)), σ) := le_X11_explored en d a σ _ (if_neg (fun z => z h))
theorem rX_hasOutcome (h : σ.1 70 17 = 0) : qev en (d + 1) 184 [.ref 70, .int a] σ = some (some (.int 0), σ) := le_X10_hasOutcome en d a σ _ (if_pos h)
theorem rX_outcome (h : σ.1 70 17 = 0) : qev en (d + 2) 222 [.ref 0, .int a, .int b] σ = some (some (.int (-1)), σ) := le_X11_outcome en (d + 1) a b σ _ (by rw [rX_hasOutcome h, bI_some]; exact if_neg (fun z => z rfl))
theorem rX_outcomeCell (h : σ.1 70 17 = 0) : qev en (d + 2) 223 [.ref 0, .int a, .int b] σ = some (some (.int (-1000)), σ) := le_X11_outcomeCell en (d + 1) a b σ _ (by rw [rX_hasOutcome h, bI_some]; exact if_pos rfl)
theorem rX_outcomeLocal (h : σ.1 70 17 = 0) : qev en (d + 2) 224 [.ref 0, .int a, .int b, .int c] σ = some (some (.int (-1000)), σ) := le_X11_outcomeLocal en (d + 1) a b c σ _ (by rw [rX_hasOutcome h, bI_some]; exact if_pos rfl)
theorem rX_chances (h : σ.1 70 17 = 0) : qev en (d + 2) 227 [.ref 0, .int a, .int b, .int c] σ = some (some (.int (-1)), σ) := le_X11_chances en (d + 1) a b c σ _ (by rw [rX_hasOutcome h, bI_some]; exact if_pos rfl)
theorem rX_rewrite (h : σ.1 0 9 = 0) : qev en (d + 1) 234 [.ref 0, .int a, .int b] σ = some (some (.int (-1)), σ) := le_X11_rewrite en d a b σ _ (if_pos h)
theorem rX_drop (h : σ.1 0 10 = 0) : qev en (d + 1) 235 [.ref 0] σ = some (some (.int 0), σ) := le_X11_drop en d σ _ (if_neg (fun z => z h))
theorem c_isWay : qev en (d + 1) 238 [.int a] σ = some (some (.int (if a < 0 then 0 else if 2 < a then 0 else 1)), σ) := by
  refine le_X11_isWay en d a σ _ ?_
  by_cases h : a < 0
  · rw [if_pos h, if_pos h]
  · rw [if_neg h, if_neg h]
    by_cases g : 2 < a
    · rw [if_pos g, if_pos g]
    · rw [if_neg g, if_neg g]
theorem rX_sound (h : σ.1 0 10 = 0) : qev en (d + 2) 236 [.ref 0, .int a] σ = some (some (.int (if a < 0 then -1 else if 2 < a then -1 else -2)), σ) := by
  refine le_X11_sound en (d + 1) a σ _ ?_
  rw [c_isWay, bI_some]
  by_cases g : a < 0
  · rw [if_pos g, if_pos g, if_neg (fun z => z rfl)]
  · rw [if_neg g, if_neg g]
    by_cases g2 : 2 < a
    · rw [if_pos g2, if_pos g2, if_neg (fun z => z rfl)]
    · rw [if_neg g2, if_neg g2, if_pos (by decide), if_neg (fun z => z h)]
theorem c_gainedX : qev en (d + 1) 237 [.ref 0] σ = some (some (.int (σ.1 0 14)), σ) := le_X11_gained en d σ _ rfl
end REF
/-! a row filled -/
theorem uJr_id {σ : qS} {a : Nat} {f : Nat → Int64} (h : ∀ j : Nat, f j = σ.2.1 a j) : uJr σ a f = σ := by
  unfold uJr
  congr 2
  funext u j
  by_cases hu : u = a
  · rw [if_pos hu, hu, h]
  · rw [if_neg hu]
theorem uIr_id {σ : qS} {a : Nat} {f : Nat → Int32} (h : ∀ j : Nat, f j = σ.1 a j) : uIr σ a f = σ := by
  unfold uIr
  congr 1
  funext u j
  by_cases hu : u = a
  · rw [if_pos hu, hu, h]
  · rw [if_neg hu]
theorem fill_J {en : pN} {d a : Nat} {v : Int64} (hc : lc a = 21) (hl : ln a < 2 ^ 31) : ∀ (m k : Nat) (σ : qS), k + m = ln a → L_J7_fill_d0a16_6 en d a v (nI k) (Int32.ofNat (ln a)) σ = some (none, uJr σ a (fun j => if k ≤ j ∧ j < ln a then v else σ.2.1 a j)) := by
  intro m
  induction m with
  | zero =>
    intro k σ hk
    refine le_J7_fill_d0a16_6 en d a v (nI k) _ σ _ ?_
    rw [gd_true hc, if_pos (show Int32.ofNat (ln a) ≤ nI k from nI_le (a := ln a) (b := k) (by omega) (by omega)), uJr_id]
    intro j
    exact if_neg (by omega)
  | succ m ih =>
    intro k σ hk
    refine le_J7_fill_d0a16_6 en d a v (nI k) _ σ _ ?_
    rw [gd_true hc, if_neg (show ¬ Int32.ofNat (ln a) ≤ nI k from nI_ge (a := k) (b := ln a) (by omega) hl), gd_true (inB_nI (by omega) hl), nm_eq, nI_clamp (by omega), nI_1, ih (k + 1) _ (by omega)]
    congr 2
    unfold uJr uJ
    congr 2
    funext u j
    by_cases hu : u = a
    · rw [if_pos hu, if_pos hu]
      show (if k + 1 ≤ j ∧ j < ln a then v else if a = a ∧ j = k then v else σ.2.1 a j) = if k ≤ j ∧ j < ln a then v else σ.2.1 a j
      by_cases hj : k + 1 ≤ j ∧ j < ln a
      · rw [if_pos hj, if_pos (by omega)]
      · rw [if_neg hj]
        by_cases hj2 : j = k
        · rw [if_pos ⟨rfl, hj2⟩, if_pos (by omega)]
        · rw [if_neg (fun q => hj2 q.2), if_neg (by omega)]
    · rw [if_neg hu, if_neg hu]
      show (if u = a ∧ j = k then v else σ.2.1 u j) = σ.2.1 u j
      rw [if_neg (fun q => hu q.1)]
theorem c_fillJ {en : pN} {d a : Nat} {v : Int64} {σ : qS} (hc : lc a = 21) (hl : ln a < 2 ^ 31) : qev en (d + 1) 434 [.ref a, .long v] σ = some (none, uJr σ a (fun j => if j < ln a then v else σ.2.1 a j)) := by
  refine le_J7_fill_d0a16 en d a v σ _ ?_
  rw [gd_true hc]
  have h := fill_J (en := en) (d := d) (v := v) hc hl (ln a) 0 σ (by omega)
  simp only [Nat.zero_le, true_and] at h
  exact h
theorem fill_I {en : pN} {d a : Nat} {v : Int32} (hc : lc a = 20) (hl : ln a < 2 ^ 31) : ∀ (m k : Nat) (σ : qS), k + m = ln a → L_J7_fill_53178_5 en d a v (nI k) (Int32.ofNat (ln a)) σ = some (none, uIr σ a (fun j => if k ≤ j ∧ j < ln a then v else σ.1 a j)) := by
  intro m
  induction m with
  | zero =>
    intro k σ hk
    refine le_J7_fill_53178_5 en d a v (nI k) _ σ _ ?_
    rw [gd_true hc, if_pos (show Int32.ofNat (ln a) ≤ nI k from nI_le (a := ln a) (b := k) (by omega) (by omega)), uIr_id]
    intro j
    exact if_neg (by omega)
  | succ m ih =>
    intro k σ hk
    refine le_J7_fill_53178_5 en d a v (nI k) _ σ _ ?_
    rw [gd_true hc, if_neg (show ¬ Int32.ofNat (ln a) ≤ nI k from nI_ge (a := k) (b := ln a) (by omega) hl), gd_true (inB_nI (by omega) hl), nm_eq, nI_clamp (by omega), nI_1, ih (k + 1) _ (by omega)]
    congr 2
    unfold uIr uI
    congr 1
    funext u j
    by_cases hu : u = a
    · rw [if_pos hu, if_pos hu]
      show (if k + 1 ≤ j ∧ j < ln a then v else if a = a ∧ j = k then v else σ.1 a j) = if k ≤ j ∧ j < ln a then v else σ.1 a j
      by_cases hj : k + 1 ≤ j ∧ j < ln a
      · rw [if_pos hj, if_pos (by omega)]
      · rw [if_neg hj]
        by_cases hj2 : j = k
        · rw [if_pos ⟨rfl, hj2⟩, if_pos (by omega)]
        · rw [if_neg (fun q => hj2 q.2), if_neg (by omega)]
    · rw [if_neg hu, if_neg hu]
      show (if u = a ∧ j = k then v else σ.1 u j) = σ.1 u j
      rw [if_neg (fun q => hu q.1)]
theorem c_fillI {en : pN} {d a : Nat} {v : Int32} {σ : qS} (hc : lc a = 20) (hl : ln a < 2 ^ 31) : qev en (d + 1) 435 [.ref a, .int v] σ = some (none, uIr σ a (fun j => if j < ln a then v else σ.1 a j)) := by
  refine le_J7_fill_53178 en d a v σ _ ?_
  rw [gd_true hc]
  have h := fill_I (en := en) (d := d) (v := v) hc hl (ln a) 0 σ (by omega)
  simp only [Nat.zero_le, true_and] at h
  exact h

