/-! THE MODEL'S MACHINE: its picture. F the fields, s the state's row, y why threads went wrong, g the pile, D the word of a call. -/
def mM (σ : qS) (F s y g : fI) (D : Int64) : qS := (fun a k => if a = 151 then F k else if a = 187 then s k else if a = 188 then y k else if a = 189 then g k else σ.1 a k, fun a k => if a = 151 ∧ k = 72 then D else σ.2.1 a k, σ.2.2)
section MMr
variable {σ : qS} {a k : Nat} {F s y g : fI} {v : Int32} {D E : Int64}
theorem mM_F : (mM σ F s y g D).1 151 = F := Eq.trans (b := F) rfl rfl
theorem mM_s : (mM σ F s y g D).1 187 = s := Eq.trans (b := s) rfl rfl
theorem mM_y : (mM σ F s y g D).1 188 = y := Eq.trans (b := y) rfl rfl
theorem mM_g : (mM σ F s y g D).1 189 = g := Eq.trans (b := g) rfl rfl
theorem mM_o (h1 : a ≠ 151) (h2 : a ≠ 187) (h3 : a ≠ 188) (h4 : a ≠ 189) : (mM σ F s y g D).1 a = σ.1 a := by
  funext j; exact (if_neg h1).trans ((if_neg h2).trans ((if_neg h3).trans (if_neg h4)))
theorem mM_J (h : a ≠ 151) : (mM σ F s y g D).2.1 a = σ.2.1 a := by
  funext j; exact if_neg fun q => h q.1
theorem mM_R : (mM σ F s y g D).2.2 = σ.2.2 := rfl
theorem mM_id : mM σ (σ.1 151) (σ.1 187) (σ.1 188) (σ.1 189) (σ.2.1 151 72) = σ := by
  refine Prod.ext (funext fun a => funext fun k => ?_) (Prod.ext (funext fun a => funext fun k => ?_) rfl)
  · show (if a = 151 then σ.1 151 k else if a = 187 then σ.1 187 k else if a = 188 then σ.1 188 k else if a = 189 then σ.1 189 k else σ.1 a k) = _
    repeat' split
    all_goals first | rfl | (rename_i h; rw [h])
  · show (if a = 151 ∧ k = 72 then σ.2.1 151 72 else σ.2.1 a k) = _
    split
    · rename_i h; rw [h.1, h.2]
    · rfl
theorem mM_wF : uI (mM σ F s y g D) 151 k v = mM σ (upd F k v) s y g D := by
  refine Prod.ext (funext fun a => funext fun j => ?_) rfl
  show (if a = 151 ∧ j = k then v else if a = 151 then F j else _) = (if a = 151 then (if j = k then v else F j) else _)
  by_cases h : a = 151
  · simp only [h, true_and, if_true]
  · simp only [h, false_and, if_false]
theorem mM_ws : uI (mM σ F s y g D) 187 k v = mM σ F (upd s k v) y g D := by
  refine Prod.ext (funext fun a => funext fun j => ?_) rfl
  show (if a = 187 ∧ j = k then v else if a = 151 then F j else if a = 187 then s j else _) = (if a = 151 then F j else if a = 187 then (if j = k then v else s j) else _)
  by_cases h : a = 187
  · subst h; simp only [true_and, if_true, show ¬ (187 = 151) by decide, if_false]
  · simp only [h, false_and, if_false]
theorem mM_wy : uI (mM σ F s y g D) 188 k v = mM σ F s (upd y k v) g D := by
  refine Prod.ext (funext fun a => funext fun j => ?_) rfl
  show (if a = 188 ∧ j = k then v else if a = 151 then F j else if a = 187 then s j else if a = 188 then y j else _) = (if a = 151 then F j else if a = 187 then s j else if a = 188 then (if j = k then v else y j) else _)
  by_cases h : a = 188
  · subst h; simp only [true_and, if_true, show ¬ (188 = 151) by decide, show ¬ (188 = 187) by decide, if_false]
  · simp only [h, false_and, if_false]
theorem mM_wg : uI (mM σ F s y g D) 189 k v = mM σ F s y (upd g k v) D := by
  refine Prod.ext (funext fun a => funext fun j => ?_) rfl
  show (if a = 189 ∧ j = k then v else if a = 151 then F j else if a = 187 then s j else if a = 188 then y j else if a = 189 then g j else _) = (if a = 151 then F j else if a = 187 then s j else if a = 188 then y j else if a = 189 then (if j = k then v else g j) else _)
  by_cases h : a = 189
  · subst h; simp only [true_and, if_true, show ¬ (189 = 151) by decide, show ¬ (189 = 187) by decide, show ¬ (189 = 188) by decide, if_false]
  · simp only [h, false_and, if_false]
theorem mM_wD : uJ (mM σ F s y g D) 151 72 E = mM σ F s y g E := by
  refine Prod.ext rfl (Prod.ext (funext fun a => funext fun j => ?_) rfl)
  show (if a = 151 ∧ j = 72 then E else if a = 151 ∧ j = 72 then D else _) = (if a = 151 ∧ j = 72 then E else _)
  by_cases h : a = 151 ∧ j = 72
  · rw [if_pos h, if_pos h]
  · rw [if_neg h, if_neg h, if_neg h]
end MMr
/-- the model's row of a state -/
def wid (w : Nat) : Nat := if w = 0 then 52 else if w = 1 then 80 else 213
def sm (w : Nat) (N : fI) (i : Nat) : Int32 :=
  if i < 4 then N i else if i < 8 then N i + 1 else if i < 12 then (if N (i - 8) = 5 then N i else N (i + 4))
  else if i < 36 then N (i + 4) else if i < 40 then N (i + 4) + 1 else if i < 52 then N (i + 4)
  else if w = 1 then (if i < 56 then N (i + 4) else if i < 68 then N (i + 4) &&& (7 : Int32) else N (i - 8) >>> ((3 : Int32) &&& 31))
  else N (i + 20)
def MR (w : Nat) (N s : fI) : Prop := ∀ i, i < wid w → s i = sm w N i
section MRr
variable {w i j t l c k : Nat} {N s M : fI} {v x : Int32}
theorem wid_ge : 52 ≤ wid w := by
  unfold wid
  split
  · omega
  · split <;> omega
theorem wid_1 : wid 1 = 80 := rfl
theorem wid_2 : wid 2 = 213 := rfl
theorem wid_0 : wid 0 = 52 := rfl
theorem mr_st (h : MR w N s) (ht : t < 4) : s t = N t := by
  rw [h t (by have := @wid_ge w; omega)]; unfold sm; rw [if_pos ht]
theorem mr_ln (h : MR w N s) (ht : t < 4) : s (4 + t) = N (4 + t) + 1 := by
  rw [h _ (by have := @wid_ge w; omega)]; unfold sm; rw [if_neg (by omega), if_pos (by omega)]
theorem mr_hd (h : MR w N s) (ht : t < 4) : s (8 + t) = if N t = 5 then N (8 + t) else N (12 + t) := by
  rw [h _ (by have := @wid_ge w; omega)]; unfold sm
  rw [if_neg (by omega), if_neg (by omega), if_pos (by omega), show 8 + t - 8 = t by omega, show 8 + t + 4 = 12 + t by omega]
theorem mr_lo (h : MR w N s) (hj : 12 ≤ j) (hj2 : j < 36) : s j = N (j + 4) := by
  rw [h _ (by have := @wid_ge w; omega)]; unfold sm
  rw [if_neg (by omega), if_neg (by omega), if_neg (by omega), if_pos (by omega)]
theorem mr_ow (h : MR w N s) (hl : l < 4) : s (36 + l) = N (40 + l) + 1 := by
  rw [h _ (by have := @wid_ge w; omega)]; unfold sm
  rw [if_neg (by omega), if_neg (by omega), if_neg (by omega), if_neg (by omega), if_pos (by omega), show 36 + l + 4 = 40 + l by omega]
theorem mr_tm (h : MR w N s) (hj : 40 ≤ j) (hj2 : j < 52) : s j = N (j + 4) := by
  rw [h _ (by have := @wid_ge w; omega)]; unfold sm
  rw [if_neg (by omega), if_neg (by omega), if_neg (by omega), if_neg (by omega), if_neg (by omega), if_pos (by omega)]
theorem mr_t1 (h : MR w N s) (hl : l < 4) : s (40 + l) = N (44 + l) := by
  rw [mr_tm h (by omega) (by omega), show 40 + l + 4 = 44 + l by omega]
theorem mr_me (h : MR w N s) (hc : c < 8) : s (44 + c) = N (48 + c) := by
  rw [mr_tm h (by omega) (by omega), show 44 + c + 4 = 48 + c by omega]
theorem mr_bu (h : MR 1 N s) (ht : t < 4) : s (52 + t) = N (56 + t) := by
  rw [h _ (by rw [wid_1]; omega)]; unfold sm
  rw [if_neg (by omega), if_neg (by omega), if_neg (by omega), if_neg (by omega), if_neg (by omega), if_neg (by omega), if_pos rfl, if_pos (by omega), show 52 + t + 4 = 56 + t by omega]
theorem mr_bc (h : MR 1 N s) (hj : j < 12) : s (56 + j) = N (60 + j) &&& (7 : Int32) := by
  rw [h _ (by rw [wid_1]; omega)]; unfold sm
  rw [if_neg (by omega), if_neg (by omega), if_neg (by omega), if_neg (by omega), if_neg (by omega), if_neg (by omega), if_pos rfl, if_neg (by omega), if_pos (by omega), show 56 + j + 4 = 60 + j by omega]
theorem mr_bv (h : MR 1 N s) (hj : j < 12) : s (68 + j) = N (60 + j) >>> ((3 : Int32) &&& 31) := by
  rw [h _ (by rw [wid_1]; omega)]; unfold sm
  rw [if_neg (by omega), if_neg (by omega), if_neg (by omega), if_neg (by omega), if_neg (by omega), if_neg (by omega), if_pos rfl, if_neg (by omega), if_neg (by omega), show 68 + j - 8 = 60 + j by omega]
theorem mr_v (h : MR 2 N s) (hj : 52 ≤ j) (hj2 : j < 213) : s j = N (j + 20) := by
  rw [h _ (by rw [wid_2]; omega)]; unfold sm
  rw [if_neg (by omega), if_neg (by omega), if_neg (by omega), if_neg (by omega), if_neg (by omega), if_neg (by omega), if_neg (by decide)]
/-! writing -/
theorem mr_un (h : ∀ i, i < wid w → sm w M i = sm w N i) (g : MR w N s) : MR w M s := fun i hi => (g i hi).trans (h i hi).symm
theorem mr_up (g : MR w N s) (h1 : sm w M j = v) (h2 : ∀ i, i < wid w → i ≠ j → sm w M i = sm w N i) : MR w M (upd s j v) := by
  intro i hi
  by_cases q : i = j
  · rw [q, pk_us, h1]
  · rw [pk_un q, h2 i hi q]; exact g i hi
abbrev dep (w i a : Nat) : Prop := (i < 12 ∧ a = i) ∨ (8 ≤ i ∧ i < 12 ∧ (a = i - 8 ∨ a = i + 4)) ∨ (12 ≤ i ∧ i < 52 ∧ a = i + 4) ∨ (52 ≤ i ∧ w = 1 ∧ (i < 68 ∧ a = i + 4 ∨ 68 ≤ i ∧ a = i - 8)) ∨ (52 ≤ i ∧ w ≠ 1 ∧ a = i + 20)
theorem sm_congr (h : ∀ a, dep w i a → M a = N a) : sm w M i = sm w N i := by
  unfold sm
  by_cases h1 : i < 4
  · rw [if_pos h1, if_pos h1]; exact h _ (by omega)
  rw [if_neg h1, if_neg h1]
  by_cases h2 : i < 8
  · rw [if_pos h2, if_pos h2, h i (by omega)]
  rw [if_neg h2, if_neg h2]
  by_cases h3 : i < 12
  · rw [if_pos h3, if_pos h3, h i (by omega), h (i - 8) (by omega), h (i + 4) (by omega)]
  rw [if_neg h3, if_neg h3]
  by_cases h4 : i < 36
  · rw [if_pos h4, if_pos h4]; exact h _ (by omega)
  rw [if_neg h4, if_neg h4]
  by_cases h5 : i < 40
  · rw [if_pos h5, if_pos h5, h _ (by omega)]
  rw [if_neg h5, if_neg h5]
  by_cases h6 : i < 52
  · rw [if_pos h6, if_pos h6]; exact h _ (by omega)
  rw [if_neg h6, if_neg h6]
  by_cases h7 : w = 1
  · rw [if_pos h7, if_pos h7]
    by_cases h8 : i < 56
    · rw [if_pos h8, if_pos h8]; exact h _ (by omega)
    rw [if_neg h8, if_neg h8]
    by_cases h9 : i < 68
    · rw [if_pos h9, if_pos h9, h _ (by omega)]
    rw [if_neg h9, if_neg h9, h _ (by omega)]
  rw [if_neg h7, if_neg h7]
  exact h _ (by omega)
theorem uw_lo (g : MR w N s) (hj : 12 ≤ j) (hj2 : j < 36) : MR w (upd N (j + 4) v) (upd s j v) := mr_up g (by unfold sm; rw [if_neg (by omega), if_neg (by omega), if_neg (by omega), if_pos (by omega), pk_us]) fun i hi q => sm_congr fun a ha => pk_un (by omega)
theorem uw_ow (g : MR w N s) (hl : l < 4) : MR w (upd N (40 + l) v) (upd s (36 + l) (v + 1)) := mr_up g (by unfold sm; rw [if_neg (by omega), if_neg (by omega), if_neg (by omega), if_neg (by omega), if_pos (by omega), show 36 + l + 4 = 40 + l by omega, pk_us]) fun i hi q => sm_congr fun a ha => pk_un (by omega)
theorem uw_tm (g : MR w N s) (hj : 40 ≤ j) (hj2 : j < 52) : MR w (upd N (j + 4) v) (upd s j v) := mr_up g (by unfold sm; rw [if_neg (by omega), if_neg (by omega), if_neg (by omega), if_neg (by omega), if_neg (by omega), if_pos (by omega), pk_us]) fun i hi q => sm_congr fun a ha => pk_un (by omega)
theorem uw_ln (g : MR w N s) (ht : t < 4) : MR w (upd N (4 + t) v) (upd s (4 + t) (v + 1)) := mr_up g (by unfold sm; rw [if_neg (by omega), if_pos (by omega), pk_us]) fun i hi q => sm_congr fun a ha => pk_un (by omega)
theorem uw_v (g : MR 2 N s) (hj : 52 ≤ j) (hj2 : j < 213) : MR 2 (upd N (j + 20) v) (upd s j v) := mr_up g (by unfold sm; rw [if_neg (by omega), if_neg (by omega), if_neg (by omega), if_neg (by omega), if_neg (by omega), if_neg (by omega), if_neg (by decide), pk_us]) fun i hi q => sm_congr fun a ha => pk_un (by omega)
theorem uw_nv (g : MR w N s) (hw : w ≠ 2) (hw2 : w ≤ 2) (hj : 72 ≤ j) : MR w (upd N j v) s := mr_un (fun i hi => sm_congr fun a ha => pk_un (by
  rcases (show w = 0 ∨ w = 1 by omega) with rfl | rfl
  · rw [wid_0] at hi; omega
  · rw [wid_1] at hi; omega)) g
theorem uw_nq (g : MR w N s) (hw : w ≠ 1) (hj : 56 ≤ j) (hj2 : j < 72) : MR w (upd N j v) s := mr_un (fun i hi => sm_congr fun a ha => pk_un (by omega)) g
theorem uw_bu (g : MR 1 N s) (ht : t < 4) : MR 1 (upd N (56 + t) v) (upd s (52 + t) v) := mr_up g (by unfold sm; rw [if_neg (by omega), if_neg (by omega), if_neg (by omega), if_neg (by omega), if_neg (by omega), if_neg (by omega), if_pos rfl, if_pos (by omega), show 52 + t + 4 = 56 + t by omega, pk_us]) fun i hi q => sm_congr fun a ha => pk_un (by omega)
/-- a thread's sort anew: it isn't wrong, nor was it -/
theorem uw_st (g : MR w N s) (ht : t < 4) (h5 : v ≠ 5) (h : N t ≠ 5) : MR w (upd N t v) (upd s t v) := mr_up g (by unfold sm; rw [if_pos ht, pk_us]) fun i hi q => by
  by_cases z : i = 8 + t
  · subst z
    unfold sm
    have a1 : ¬ 8 + t < 4 := by omega
    have a2 : ¬ 8 + t < 8 := by omega
    have a3 : 8 + t < 12 := by omega
    simp only [a1, a2, a3, if_false, if_true, show 8 + t - 8 = t by omega, pk_us, h5, h]
    exact pk_un (by omega)
  · exact sm_congr fun a ha => pk_un (by omega)
/-- how often a thread that waits had its lock -/
theorem uw_had (g : MR w N s) (ht : t < 4) (h : N t ≠ 5) : MR w (upd N (12 + t) v) (upd s (8 + t) v) := mr_up g (by
  unfold sm
  rw [if_neg (by omega), if_neg (by omega), if_pos (by omega), show 8 + t - 8 = t by omega, pk_un (by omega), if_neg h, show 8 + t + 4 = 12 + t by omega, pk_us]) fun i hi q => sm_congr fun a ha => pk_un (by omega)
/-- an entry of a buffer -/
theorem uw_be (g : MR 1 N s) (hj : j < 12) : MR 1 (upd N (60 + j) v) (upd (upd s (56 + j) (v &&& (7 : Int32))) (68 + j) (v >>> ((3 : Int32) &&& 31))) := by
  intro i hi
  by_cases q1 : i = 68 + j
  · rw [q1, pk_us]; unfold sm
    rw [if_neg (by omega), if_neg (by omega), if_neg (by omega), if_neg (by omega), if_neg (by omega), if_neg (by omega), if_pos rfl, if_neg (by omega), if_neg (by omega), show 68 + j - 8 = 60 + j by omega, pk_us]
  · by_cases q2 : i = 56 + j
    · rw [q2, pk_un (by omega), pk_us]; unfold sm
      rw [if_neg (by omega), if_neg (by omega), if_neg (by omega), if_neg (by omega), if_neg (by omega), if_neg (by omega), if_pos rfl, if_neg (by omega), if_pos (by omega), show 56 + j + 4 = 60 + j by omega, pk_us]
    · rw [pk_un q1, pk_un q2, g i hi]
      exact (sm_congr fun a ha => pk_un (by omega)).symm
/-- a thread goes wrong -/
theorem uw_wr (g : MR w N s) (ht : t < 4) : MR w (wrg N t v) (upd (upd (upd s t 5) (4 + t) 0) (8 + t) v) := by
  intro i hi
  unfold wrg
  by_cases q1 : i = 8 + t
  · rw [q1, pk_us]; unfold sm
    rw [if_neg (by omega), if_neg (by omega), if_pos (by omega), show 8 + t - 8 = t by omega, pk_un (show t ≠ 8 + t by omega), pk_un (show t ≠ 4 + t by omega), pk_us, if_pos rfl, pk_us]
  · by_cases q2 : i = 4 + t
    · rw [q2, pk_un (by omega), pk_us]; unfold sm
      rw [if_neg (by omega), if_pos (by omega), pk_un (by omega), pk_us]; rfl
    · by_cases q3 : i = t
      · rw [q3, pk_un (by omega), pk_un (by omega), pk_us]; unfold sm
        rw [if_pos ht, pk_un (by omega), pk_un (by omega), pk_us]
      · rw [pk_un q1, pk_un q2, pk_un q3, g i hi]
        exact (sm_congr fun a ha => by rw [pk_un (by omega), pk_un (by omega), pk_un (by omega)]).symm
end MRr
