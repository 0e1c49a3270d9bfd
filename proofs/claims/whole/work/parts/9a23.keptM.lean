/-! THE RUN, the model's side: what is kept of it. K: its state's row, W: why threads went wrong, g: its steps' rows, X: their words. -/
def kpS (σ : qS) (K W : fI) (g : Nat → fI) (X : fJ) : qS := (fun a k => if a = 191 then K k else if a = 192 then W k else if 193 ≤ a ∧ a < 199 then g (a - 193) k else σ.1 a k, fun a k => if a = 199 then X k else σ.2.1 a k, σ.2.2)
def cpf (K s : fI) (m : Nat) : fI := fun k => if k < m then s k else K k
theorem cpf_s {K s : fI} {m : Nat} : upd (cpf K s m) m (s m) = cpf K s (m + 1) := by
  funext k
  show (if k = m then s m else if k < m then s k else K k) = (if k < m + 1 then s k else K k)
  by_cases q : k = m
  · rw [if_pos q, if_pos (by omega), q]
  · rw [if_neg q]
    by_cases z : k < m
    · rw [if_pos z, if_pos (by omega)]
    · rw [if_neg z, if_neg (by omega)]
theorem cpf_0 {K s : fI} : cpf K s 0 = K := by
  funext k
  exact if_neg (by omega)
theorem cpf_l {K s : fI} {m k : Nat} (h : k < m) : cpf K s m k = s k := if_pos h
theorem wid_le {w : Nat} : wid w ≤ 213 := by
  unfold wid
  split
  · omega
  · split <;> omega
theorem MR_cpf {w : Nat} {N K s : fI} (h : MR w N s) : MR w N (cpf K s 216) := fun i hi => by
  have := @wid_le w
  rw [cpf_l (by omega)]
  exact h i hi
section KS
variable {σ : qS} {K W F s y gg : fI} {g : Nat → fI} {X : fJ} {D : Int64} {a k r : Nat} {v : Int32} {u : Int64}
theorem kp_K : (kpS σ K W g X).1 191 = K := Eq.trans (b := K) rfl rfl
theorem kp_W : (kpS σ K W g X).1 192 = W := Eq.trans (b := W) rfl rfl
theorem kp_g (h : r < 6) : (kpS σ K W g X).1 (193 + r) = g r := by
  funext x
  show (if 193 + r = 191 then K x else if 193 + r = 192 then W x else if 193 ≤ 193 + r ∧ 193 + r < 199 then g (193 + r - 193) x else σ.1 (193 + r) x) = _
  rw [if_neg (by omega), if_neg (by omega), if_pos (by omega), Nat.add_sub_cancel_left]
theorem kp_o (h : a < 191 ∨ 199 ≤ a) : (kpS σ K W g X).1 a = σ.1 a := by
  funext x
  show (if a = 191 then K x else if a = 192 then W x else if 193 ≤ a ∧ a < 199 then g (a - 193) x else σ.1 a x) = _
  rw [if_neg (by omega), if_neg (by omega), if_neg (by omega)]
theorem kp_wK : uI (kpS σ K W g X) 191 k v = kpS σ (upd K k v) W g X := by
  refine Prod.ext (funext fun a => funext fun x => ?_) rfl
  show (if a = 191 ∧ x = k then v else if a = 191 then K x else if a = 192 then W x else if 193 ≤ a ∧ a < 199 then g (a - 193) x else σ.1 a x) = (if a = 191 then (if x = k then v else K x) else if a = 192 then W x else if 193 ≤ a ∧ a < 199 then g (a - 193) x else σ.1 a x)
  by_cases q : a = 191
  · by_cases z : x = k
    · rw [if_pos ⟨q, z⟩, if_pos q, if_pos z]
    · rw [if_neg (fun w => z w.2), if_pos q, if_pos q, if_neg z]
  · rw [if_neg (fun w => q w.1), if_neg q, if_neg q]
theorem kp_wW : uI (kpS σ K W g X) 192 k v = kpS σ K (upd W k v) g X := by
  refine Prod.ext (funext fun a => funext fun x => ?_) rfl
  show (if a = 192 ∧ x = k then v else if a = 191 then K x else if a = 192 then W x else if 193 ≤ a ∧ a < 199 then g (a - 193) x else σ.1 a x) = (if a = 191 then K x else if a = 192 then (if x = k then v else W x) else if 193 ≤ a ∧ a < 199 then g (a - 193) x else σ.1 a x)
  by_cases q : a = 192
  · by_cases z : x = k
    · rw [if_pos ⟨q, z⟩, if_neg (by omega), if_pos q, if_pos z]
    · have h1 : ¬ a = 191 := by omega
      rw [if_neg (fun w => z w.2), if_neg h1, if_pos q, if_neg h1, if_pos q, if_neg z]
  · rw [if_neg (fun w => q w.1), if_neg q, if_neg q]
theorem kp_wg (h : r < 6) : uI (kpS σ K W g X) (193 + r) k v = kpS σ K W (updR g r k v) X := by
  refine Prod.ext (funext fun a => funext fun x => ?_) rfl
  show (if a = 193 + r ∧ x = k then v else if a = 191 then K x else if a = 192 then W x else if 193 ≤ a ∧ a < 199 then g (a - 193) x else σ.1 a x) = (if a = 191 then K x else if a = 192 then W x else if 193 ≤ a ∧ a < 199 then (if a - 193 = r ∧ x = k then v else g (a - 193) x) else σ.1 a x)
  by_cases q : 193 ≤ a ∧ a < 199
  · by_cases z : a - 193 = r ∧ x = k
    · rw [if_pos (by omega), if_neg (by omega), if_neg (by omega), if_pos q, if_pos z]
    · have h1 : ¬ a = 191 := by omega
      have h2 : ¬ a = 192 := by omega
      rw [if_neg (by omega), if_neg h1, if_neg h2, if_pos q, if_neg h1, if_neg h2, if_pos q, if_neg z]
  · rw [if_neg (by omega)]
    rw [if_neg q, if_neg q]
theorem kp_wX : uJ (kpS σ K W g X) 199 k u = kpS σ K W g (updJ X k u) := by
  refine Prod.ext rfl (Prod.ext (funext fun a => funext fun j => ?_) rfl)
  show (if a = 199 ∧ j = k then u else (if a = 199 then X j else σ.2.1 a j)) = (if a = 199 then (if j = k then u else X j) else σ.2.1 a j)
  by_cases h : a = 199
  · by_cases q : j = k
    · rw [if_pos ⟨h, q⟩, if_pos h, if_pos q]
    · rw [if_neg (fun z => q z.2), if_pos h, if_pos h, if_neg q]
  · rw [if_neg (fun z => h z.1), if_neg h, if_neg h]
theorem kp_r {R : fI} : uIr (kpS σ K W g X) 190 R = kpS (uIr σ 190 R) K W g X := by
  refine Prod.ext (funext fun a => funext fun x => ?_) rfl
  show (if a = 190 then R x else if a = 191 then K x else if a = 192 then W x else if 193 ≤ a ∧ a < 199 then g (a - 193) x else σ.1 a x) = (if a = 191 then K x else if a = 192 then W x else if 193 ≤ a ∧ a < 199 then g (a - 193) x else if a = 190 then R x else σ.1 a x)
  by_cases q : a = 190
  · rw [if_pos q, if_neg (by omega), if_neg (by omega), if_neg (by omega), if_pos q]
  · rw [if_neg q, if_neg q]
/-- a write below the machine's picture -/
theorem mM_wo (h1 : a ≠ 151) (h2 : a ≠ 187) (h3 : a ≠ 188) (h4 : a ≠ 189) : uI (mM σ F s y gg D) a k v = mM (uI σ a k v) F s y gg D := by
  refine Prod.ext (funext fun c => funext fun x => ?_) rfl
  show (if c = a ∧ x = k then v else if c = 151 then F x else if c = 187 then s x else if c = 188 then y x else if c = 189 then gg x else σ.1 c x) = (if c = 151 then F x else if c = 187 then s x else if c = 188 then y x else if c = 189 then gg x else if c = a ∧ x = k then v else σ.1 c x)
  by_cases q : c = a ∧ x = k
  · rw [if_pos q, if_neg (by omega), if_neg (by omega), if_neg (by omega), if_neg (by omega), if_pos q]
  · rw [if_neg q, if_neg q]
theorem mM_wJ (h : a ≠ 151) : uJ (mM σ F s y gg D) a k u = mM (uJ σ a k u) F s y gg D := by
  refine Prod.ext rfl (Prod.ext (funext fun c => funext fun x => ?_) rfl)
  show (if c = a ∧ x = k then u else if c = 151 ∧ x = 72 then D else σ.2.1 c x) = (if c = 151 ∧ x = 72 then D else if c = a ∧ x = k then u else σ.2.1 c x)
  by_cases q : c = a ∧ x = k
  · rw [if_pos q, if_neg (by omega), if_pos q]
  · rw [if_neg q, if_neg q]
theorem mk_wK : uI (mM (kpS σ K W g X) F s y gg D) 191 k v = mM (kpS σ (upd K k v) W g X) F s y gg D := by
  rw [mM_wo (by decide) (by decide) (by decide) (by decide), kp_wK]
theorem mk_wW : uI (mM (kpS σ K W g X) F s y gg D) 192 k v = mM (kpS σ K (upd W k v) g X) F s y gg D := by
  rw [mM_wo (by decide) (by decide) (by decide) (by decide), kp_wW]
theorem mk_wg (h : r < 6) : uI (mM (kpS σ K W g X) F s y gg D) (193 + r) k v = mM (kpS σ K W (updR g r k v) X) F s y gg D := by
  rw [mM_wo (by omega) (by omega) (by omega) (by omega), kp_wg h]
theorem mk_wX : uJ (mM (kpS σ K W g X) F s y gg D) 199 k u = mM (kpS σ K W g (updJ X k u)) F s y gg D := by
  rw [mM_wJ (by decide), kp_wX]
theorem mk_K : (mM (kpS σ K W g X) F s y gg D).1 191 = K := by
  rw [mM_o (by decide) (by decide) (by decide) (by decide), kp_K]
theorem mk_W : (mM (kpS σ K W g X) F s y gg D).1 192 = W := by
  rw [mM_o (by decide) (by decide) (by decide) (by decide), kp_W]
variable {en : pN} {d w : Nat}
theorem m_keepRun : qev en (d + 1) 328 [.ref 151] (mM (kpS σ K W g X) F s y gg D) = some (none, mM (kpS σ (cpf K s 216) (cpf W y 4) g X) (upd F 76 (F 58)) s y gg D) := by
  have f29 : ∀ (m i : Nat), i + m = 4 → L_X12_keepRun_29 en d (nI i) (mM (kpS σ (cpf K s 216) (cpf W y i) g X) F s y gg D) = some (none, mM (kpS σ (cpf K s 216) (cpf W y 4) g X) (upd F 76 (F 58)) s y gg D) := by
    intro m
    induction m with
    | zero =>
      intro i hi
      rw [show i = 4 by omega]
      refine le_X12_keepRun_29 en d _ _ _ ?_
      rw [if_pos (by decide), mM_F, mM_wF]
      rfl
    | succ m ih =>
      intro i hi
      refine le_X12_keepRun_29 en d _ _ _ ?_
      rw [if_neg (by rw [n_le (by decide) (by omega)]; show ¬ 4 ≤ i; omega), gd_true (n_in (by omega) (by decide)), mM_y, n_cl (by omega), mk_wW, cpf_s, n_ar]
      exact ih (i + 1) (by omega)
  have f2 : ∀ (m i : Nat), i + m = 216 → L_X12_keepRun_2 en d (nI i) (mM (kpS σ (cpf K s i) W g X) F s y gg D) = some (none, mM (kpS σ (cpf K s 216) (cpf W y 4) g X) (upd F 76 (F 58)) s y gg D) := by
    intro m
    induction m with
    | zero =>
      intro i hi
      rw [show i = 216 by omega]
      refine le_X12_keepRun_2 en d _ _ _ ?_
      rw [if_pos (by decide)]
      have h := f29 4 0 (by decide)
      rw [cpf_0] at h
      exact h
    | succ m ih =>
      intro i hi
      refine le_X12_keepRun_2 en d _ _ _ ?_
      rw [if_neg (by rw [n_le (by decide) (by omega)]; show ¬ 216 ≤ i; omega), gd_true (n_in (by omega) (by decide)), mM_s, n_cl (by omega), mk_wK, cpf_s, n_ar]
      exact ih (i + 1) (by omega)
  refine le_X12_keepRun en d _ _ ?_
  have h := f2 216 0 (by decide)
  rw [cpf_0] at h
  exact h
theorem m_width (hw : w ≤ 2) : qev en (d + 1) 299 [.int (nI w)] σ = some (some (.int (nI (wid w))), σ) := by
  refine le_X12_widthOf en d _ _ _ ?_
  match w, hw with
  | 0, _ => rfl
  | 1, _ => rfl
  | 2, _ => rfl
theorem m_takeRun (hF : F 76 = nI w) (hw : w ≤ 2) : qev en (d + 2) 329 [.ref 151] (mM (kpS σ K W g X) F s y gg D) = some (none, mM (kpS σ K W g X) (upd (upd (upd F 58 (nI w)) 60 (nI (wid w))) 59 3) (cpf s K 216) y gg D) := by
  have f2 : ∀ (m i : Nat), i + m = 216 → L_X12_takeRun_2 en (d + 1) (nI i) (mM (kpS σ K W g X) F (cpf s K i) y gg D) = some (none, mM (kpS σ K W g X) (upd (upd (upd F 58 (nI w)) 60 (nI (wid w))) 59 3) (cpf s K 216) y gg D) := by
    intro m
    induction m with
    | zero =>
      intro i hi
      rw [show i = 216 by omega]
      refine le_X12_takeRun_2 en (d + 1) _ _ _ ?_
      rw [if_pos (by decide)]
      simp only [nm_eq, mM_F, hF, mM_wF, pk_us, m_width hw, bI_some]
    | succ m ih =>
      intro i hi
      refine le_X12_takeRun_2 en (d + 1) _ _ _ ?_
      rw [if_neg (by rw [n_le (by decide) (by omega)]; show ¬ 216 ≤ i; omega), gd_true (n_in (by omega) (by decide)), mk_K, n_cl (by omega), mM_ws, cpf_s, n_ar]
      exact ih (i + 1) (by omega)
  refine le_X12_takeRun en (d + 1) _ _ ?_
  have h := f2 216 0 (by decide)
  rw [cpf_0] at h
  exact h
end KS
