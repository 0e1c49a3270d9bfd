/-! THE RUN: a step of it, the class's side. l: its length; f: the steps' rows; H: the words. -/
def rnS (σ : qS) (l : Int32) (f : Nat → fI) (H : fJ) : qS := (fun a k => if 118 ≤ a ∧ a < 124 then f (a - 118) k else if a = 111 ∧ k = 3 then l else σ.1 a k, fun a k => if a = 124 then H k else σ.2.1 a k, σ.2.2)
def updR (f : Nat → fI) (r k : Nat) (v : Int32) : Nat → fI := fun q x => if q = r ∧ x = k then v else f q x
section RS
variable {σ : qS} {l v : Int32} {f : Nat → fI} {H : fJ} {a r k p : Nat} {P : Nat → fI}
theorem rn_f (h : r < 6) : (rnS σ l f H).1 (118 + r) = f r := by
  funext x
  show (if 118 ≤ 118 + r ∧ 118 + r < 124 then f (118 + r - 118) x else _) = _
  rw [if_pos (by omega), Nat.add_sub_cancel_left]
theorem rn_l : (rnS σ l f H).1 111 3 = l := by
  show (if 118 ≤ 111 ∧ 111 < 124 then f (111 - 118) 3 else if (111 : Nat) = 111 ∧ (3 : Nat) = 3 then l else σ.1 111 3) = l
  rw [if_neg (by decide), if_pos (by decide)]
theorem rn_o (h1 : a < 118 ∨ 124 ≤ a) (h2 : a ≠ 111) : (rnS σ l f H).1 a = σ.1 a := by
  funext x
  show (if 118 ≤ a ∧ a < 124 then f (a - 118) x else if a = 111 ∧ x = 3 then l else σ.1 a x) = _
  rw [if_neg (by omega), if_neg (by omega)]
theorem rn_wf (h : r < 6) : uI (rnS σ l f H) (118 + r) k v = rnS σ l (updR f r k v) H := by
  refine Prod.ext (funext fun a => funext fun x => ?_) rfl
  show (if a = 118 + r ∧ x = k then v else if 118 ≤ a ∧ a < 124 then f (a - 118) x else if a = 111 ∧ x = 3 then l else σ.1 a x) = (if 118 ≤ a ∧ a < 124 then (if a - 118 = r ∧ x = k then v else f (a - 118) x) else if a = 111 ∧ x = 3 then l else σ.1 a x)
  by_cases q : 118 ≤ a ∧ a < 124
  · rw [if_pos q, if_pos q]
    by_cases z : a - 118 = r ∧ x = k
    · rw [if_pos (by omega), if_pos z]
    · rw [if_neg (by omega), if_neg z]
  · rw [if_neg q, if_neg q, if_neg (by omega)]
theorem rn_wl : uI (rnS σ l f H) 111 3 v = rnS σ v f H := by
  refine Prod.ext (funext fun a => funext fun x => ?_) rfl
  show (if a = 111 ∧ x = 3 then v else if 118 ≤ a ∧ a < 124 then f (a - 118) x else if a = 111 ∧ x = 3 then l else σ.1 a x) = (if 118 ≤ a ∧ a < 124 then f (a - 118) x else if a = 111 ∧ x = 3 then v else σ.1 a x)
  by_cases q : a = 111 ∧ x = 3
  · rw [if_pos q, if_neg (by omega), if_pos q]
  · rw [if_neg q, if_neg q, if_neg q]
theorem rn_H {H' : fJ} : hS (rnS σ l f H) H' = rnS σ l f H' := by
  refine Prod.ext rfl (Prod.ext (funext fun a => funext fun x => ?_) rfl)
  show (if a = 124 then H' x else if a = 124 then H x else σ.2.1 a x) = (if a = 124 then H' x else σ.2.1 a x)
  by_cases q : a = 124
  · rw [if_pos q, if_pos q]
  · rw [if_neg q, if_neg q, if_neg q]
theorem rn_XB (h : XB σ 112 p P) : XB (rnS σ l f H) 112 p P := by
  obtain ⟨h1, h2, h3, h4, h5, h6⟩ := h
  refine ⟨h1, h2, h3, fun a ha => ?_, ?_, ?_⟩
  · rw [rn_o (by omega) (by omega)]; exact h4 a ha
  · rw [rn_o (by omega) (by omega)]; exact h5
  · rw [rn_o (by omega) (by omega)]; exact h6
variable {m : Nat} {F N G : fI} {b : Int32}
theorem mS_wo (h1 : a ≠ m) (h2 : a ≠ m + 1) (h3 : a ≠ 10) (h4 : a ≠ 7) : uI (mS σ m F N b G) a k v = mS (uI σ a k v) m F N b G := by
  refine Prod.ext (funext fun c => funext fun x => ?_) rfl
  show (if c = a ∧ x = k then v else if c = m then F x else if c = m + 1 then N x else if c = 10 then G x else if c = 7 ∧ x = 4 then b else σ.1 c x) = (if c = m then F x else if c = m + 1 then N x else if c = 10 then G x else if c = 7 ∧ x = 4 then b else if c = a ∧ x = k then v else σ.1 c x)
  by_cases q : c = a ∧ x = k
  · rw [if_pos q, if_neg (by omega), if_neg (by omega), if_neg (by omega), if_neg (by omega), if_pos q]
  · rw [if_neg q, if_neg q]
theorem mrn_wf (h : r < 6) : uI (mS (rnS σ l f H) 112 F N b G) (118 + r) k v = mS (rnS σ l (updR f r k v) H) 112 F N b G := by
  rw [mS_wo (by omega) (by omega) (by omega) (by omega), rn_wf h]
theorem mrn_w0 : uI (mS (rnS σ l f H) 112 F N b G) 118 k v = mS (rnS σ l (updR f 0 k v) H) 112 F N b G := mrn_wf (r := 0) (by decide)
theorem mrn_w1 : uI (mS (rnS σ l f H) 112 F N b G) 119 k v = mS (rnS σ l (updR f 1 k v) H) 112 F N b G := mrn_wf (r := 1) (by decide)
theorem mrn_w2 : uI (mS (rnS σ l f H) 112 F N b G) 120 k v = mS (rnS σ l (updR f 2 k v) H) 112 F N b G := mrn_wf (r := 2) (by decide)
theorem mrn_w3 : uI (mS (rnS σ l f H) 112 F N b G) 121 k v = mS (rnS σ l (updR f 3 k v) H) 112 F N b G := mrn_wf (r := 3) (by decide)
theorem mrn_w4 : uI (mS (rnS σ l f H) 112 F N b G) 122 k v = mS (rnS σ l (updR f 4 k v) H) 112 F N b G := mrn_wf (r := 4) (by decide)
theorem mrn_w5 : uI (mS (rnS σ l f H) 112 F N b G) 123 k v = mS (rnS σ l (updR f 5 k v) H) 112 F N b G := mrn_wf (r := 5) (by decide)
theorem mrn_wl : uI (mS (rnS σ l f H) 112 F N b G) 111 3 v = mS (rnS σ v f H) 112 F N b G := by
  rw [mS_wo (by omega) (by omega) (by omega) (by omega), rn_wl]
theorem mrn_H {H' : fJ} : hS (mS (rnS σ l f H) 112 F N b G) H' = mS (rnS σ l f H') 112 F N b G := by
  show mS (hS (rnS σ l f H) H') 112 F N b G = _
  rw [rn_H]
theorem mrn_f (h : r < 6) : (mS (rnS σ l f H) 112 F N b G).1 (118 + r) = f r := by
  rw [mS_o (by omega) (by omega) (by omega) (by omega), rn_f h]
theorem mrn_l : (mS (rnS σ l f H) 112 F N b G).1 111 3 = l := by
  rw [mS_o (by omega) (by omega) (by omega) (by omega), rn_l]
theorem mrn_RV (h : XB σ 112 p P) : RV (mS (rnS σ l f H) 112 F N b G) p P f := by
  refine ⟨fun k hk => mrn_f hk, h.2.2.1, xb_lp h, ?_⟩
  rw [show (mS (rnS σ l f H) 112 F N b G).1 p = P 0 from xb_P0 (rn_XB h)]
end RS
section TK
variable {en : pN} {d : Nat} {s : qS} {H : fJ} {p j : Nat} {P f : Nat → fI}
theorem anyS {h : Nat → Bool} {n : Nat} : (List.range (n + 1)).any h = ((List.range n).any h || h n) := by
  rw [List.range_succ, List.any_append]
  show (_ || (h n || false)) = _
  rw [Bool.or_false]
/-- which earlier steps lead to j: all of them are looked at -/
theorem l_171 (hR : RV s p P f) (hj : j < 200) : ∀ (k i : Nat) (H : fJ), i + k = j → AH H (fun a b => decide (ldS P f a b)) j → (∀ x, x < 256 → ahd H j x = (List.range i).any (fun i => decide (ldS P f i j) && (x == i || bfo (fun a b => decide (ldS P f a b)) i x))) → ∃ H', L_X8_take_171 en (d + 3) (nI j) (nI i) (hS s H) = some (none, hS s H') ∧ AH H' (fun a b => decide (ldS P f a b)) (j + 1) := by
  intro k
  induction k with
  | zero =>
    intro i H hi hA hX
    have : i = j := by omega
    subst this
    refine ⟨H, le_X8_take_171 en (d + 3) _ _ _ _ ?_, ?_⟩
    · rw [if_pos (by rw [n_LE (by omega) (by omega)]; exact Nat.le_refl _)]
    · intro j' hj' x hx
      by_cases q : j' = i
      · rw [q, hX x hx, bfo_eq (j := i)]
      · exact hA j' (by omega) x hx
  | succ k ih =>
    intro i H hi hA hX
    by_cases q : ldS P f i j
    · obtain ⟨H1, e1, o1, b1⟩ := x_putAhead (s := s) (H := H) (en := en) (d := d + 2) (show i < j by omega) hj
      obtain ⟨H2, e2, a2⟩ := ih (i + 1) H1 (by omega) (fun j' hj' x hx => by rw [o1 j' (by omega) x hx]; exact hA j' hj' x hx) (fun x hx => by
        rw [b1 x hx, anyS, hX x hx, hA i (by omega) x hx, decide_eq_true q, Bool.true_and])
      refine ⟨H2, le_X8_take_171 en (d + 3) _ _ _ _ ?_, a2⟩
      rw [if_neg (by rw [n_LE (by omega) (by omega)]; omega), x_leads (d := d) (s := hS s H) hR (by omega) hj]
      show (if bt (decide (ldS P f i j)) = 0 then _ else bV (qev en (d + 3) 156 [.ref 111, .int (nI i), .int (nI j)] (hS s H)) _) = _
      rw [ibd, if_pos q, e1, n_ar]
      exact e2
    · obtain ⟨H2, e2, a2⟩ := ih (i + 1) H (by omega) hA (fun x hx => by
        rw [anyS, hX x hx, decide_eq_false q, Bool.false_and, Bool.or_false])
      refine ⟨H2, le_X8_take_171 en (d + 3) _ _ _ _ ?_, a2⟩
      rw [if_neg (by rw [n_LE (by omega) (by omega)]; omega), x_leads (d := d) (s := hS s H) hR (by omega) hj]
      show (if bt (decide (ldS P f i j)) = 0 then L_X8_take_171 en (d + 3) (nI j) (nI i + (1 : Int32)) (hS s H) else _) = _
      rw [ibd, if_neg q, n_ar]
      exact e2
def pZ (H : fJ) (j w : Nat) : fJ := fun x => if j * 4 ≤ x ∧ x < j * 4 + w then 0 else H x
theorem l_144 (hR : RV s p P f) (hj : j < 200) (hA : AH H (fun a b => decide (ldS P f a b)) j) : ∃ H', L_X8_take_144 en (d + 3) (nI j) 0 (hS s H) = some (none, hS s H') ∧ AH H' (fun a b => decide (ldS P f a b)) (j + 1) := by
  have r3 : ∀ w, w < 4 → updJ (pZ H j w) (j * 4 + w) 0 = pZ H j (w + 1) := by
    intro w hw
    funext x
    show (if x = j * 4 + w then _ else if _ then _ else _) = (if _ then _ else _)
    by_cases q : x = j * 4 + w
    · rw [if_pos q, if_pos (by omega)]
    · rw [if_neg q]
      by_cases z : j * 4 ≤ x ∧ x < j * 4 + w
      · rw [if_pos z, if_pos (by omega)]
      · rw [if_neg z, if_neg (by omega)]
  obtain ⟨H', e, a⟩ := l_171 (s := s) (en := en) (d := d) hR hj j 0 (pZ H j 4) (by omega) (fun j' hj' x hx => by
    show ((if _ then _ else H (j' * 4 + x / 64)) : Int64).toBitVec.getLsbD (x % 64) = _
    rw [if_neg (by omega)]
    exact hA j' hj' x hx) (fun x hx => by
    show ((if _ then (0 : Int64) else _) : Int64).toBitVec.getLsbD (x % 64) = false
    rw [if_pos (by omega)]
    exact BitVec.getLsbD_zero)
  have loop : ∀ (k w : Nat), w + k = 4 → L_X8_take_144 en (d + 3) (nI j) (nI w) (hS s (pZ H j w)) = some (none, hS s H') := by
    intro k
    induction k with
    | zero =>
      intro w hw
      rw [show w = 4 by omega]
      refine le_X8_take_144 en (d + 3) _ _ _ _ ?_
      rw [if_pos (by decide)]
      exact e
    | succ k ih =>
      intro w hw
      refine le_X8_take_144 en (d + 3) _ _ _ _ ?_
      rw [if_neg (by rw [n_le (by decide) (by omega)]; show ¬ 4 ≤ w; omega), n_mr, show nI (j * (OfNat.ofNat 4 : Nat)) + nI w = nI (j * 4 + w) from (Int32.ofNat_add _ _).symm, gd_true (n_in (by omega) (by decide)), n_cl (by omega), hS_w, r3 w (by omega), n_ar]
      exact ih (w + 1) (by omega)
  have p0 : pZ H j 0 = H := by
    funext x
    exact if_neg (by omega)
  have h := loop 4 0 (by decide)
  rw [p0] at h
  exact ⟨H', h, a⟩
end TK
section RT
variable {en : pN} {d : Nat} {σ : qS} {H : fJ} {p j t ch w nc nl nt n : Nat} {P f : Nat → fI} {F N G : fI} {b : Int32}
/-- the rows behind a step -/
def stR (f : Nat → fI) (j : Nat) (v : Nat → Int32) : Nat → fI := fun r x => if r < 6 ∧ x = j then v r else f r x
theorem ln_rd (hP : PV P nc nl nt n) (hS : SV P w nc nl nt n N) (hr : rdS P w N t ch nt) (h9 : ch ≠ 9) : ∃ i, i < n ∧ N (4 + t) = nI i ∧ P 8 i = nI t := by
  obtain ⟨htn, hr⟩ := hr
  obtain ⟨St, -⟩ := hS
  have hr : ch < chs P w N t nt := hr.resolve_right (fun z => h9 z.1)
  by_cases s3 : N t = 3
  · obtain ⟨⟨i, hi, h4, h8, -⟩, -⟩ := sv_wok (St.1 t htn) s3
    exact ⟨i, hi, h4, h8⟩
  · have s1 : N t = 1 := by
      unfold chs at hr
      rw [if_neg s3] at hr
      by_cases z : N t = 1
      · exact z
      · rw [if_neg z] at hr; omega
    obtain ⟨⟨i, hi, h4, h8⟩, -⟩ := sv_run (St.1 t htn) s1
    exact ⟨i, hi, h4, h8⟩
/-- what a step's six rows say -/
def stV (P : Nat → fI) (w : Nat) (N : fI) (t ch nt : Nat) (told : Int32) : Nat → Int32 := fun r =>
  if r = 0 then nI t else if r = 1 then nI ch else if r = 2 then lnA P N t ch else if r = 3 then acA P w N t ch nt else if r = 4 then (if ch = 9 then -2 else P 9 (clp (N (4 + t)))) else told
theorem stR_6 {v : Nat → Int32} : updR (updR (updR (updR (updR (updR f 0 j (v 0)) 1 j (v 1)) 2 j (v 2)) 3 j (v 3)) 4 j (v 4)) 5 j (v 5) = stR f j v := by
  funext r x
  unfold updR stR
  by_cases hx : x = j
  · rcases (by omega : r = 0 ∨ r = 1 ∨ r = 2 ∨ r = 3 ∨ r = 4 ∨ r = 5 ∨ 6 ≤ r) with z | z | z | z | z | z | z
    · subst z; simp [hx]
    · subst z; simp [hx]
    · subst z; simp [hx]
    · subst z; simp [hx]
    · subst z; simp [hx]
    · subst z; simp [hx]
    · have : ¬ r < 6 := by omega
      have h0 : ¬ r = 0 := by omega
      have h1 : ¬ r = 1 := by omega
      have h2 : ¬ r = 2 := by omega
      have h3 : ¬ r = 3 := by omega
      have h4 : ¬ r = 4 := by omega
      have h5 : ¬ r = 5 := by omega
      simp [this, h0, h1, h2, h3, h4, h5]
  · simp [hx]
theorem stR_o {v : Nat → Int32} {r x : Nat} (h : x ≠ j) : stR f j v r x = f r x := if_neg (fun z => h z.2)
theorem stR_n {v : Nat → Int32} {r : Nat} (h : r < 6) : stR f j v r j = v r := if_pos ⟨h, rfl⟩
theorem ldS_cg {f' : Nat → fI} (h : ∀ r x, x < n → f' r x = f r x) : ∀ i k, i < n → k < n → (ldS P f i k ↔ ldS P f' i k) := by
  intro i k hi hk
  show (_ ∧ _) ↔ (_ ∧ _)
  simp only [ldS, tlS, hrS, h _ i hi, h _ k hk]
theorem x_rtake (hB : XB σ 112 p P) (hP : PV P nc nl nt n) (hS : SV P w nc nl nt n N) (hw : F 8 = nI w) (hw2 : w ≤ 2) (hr : rdS P w N t ch nt) (hch : ch < 10) (hj : j < 200) (hA : AH H (fun a b => decide (ldS P f a b)) j) : ∃ (F' G' : fI) (b' told : Int32) (H' : fJ), qev en (d + 7) 155 [.ref 111, .int (nI t), .int (nI ch)] (mS (rnS σ (nI j) f H) 112 F N b G) = some (none, mS (rnS σ (nI (j + 1)) (stR f j (stV P w N t ch nt told)) H') 112 F' (stp P w N t ch nt) b' G') ∧ (∀ j, j ≠ 9 → j ≠ 10 → j ≠ 11 → j ≠ 12 → F' j = F j) ∧ (acA P w N t ch nt = 15 ∨ acA P w N t ch nt = 16 → told = exr (exv P 5 N (clp (N (4 + t))))) ∧ AH H' (fun a b => decide (ldS P (stR f j (stV P w N t ch nt told)) a b)) (j + 1) := by
  obtain ⟨F', G', b', e, hF, h9, h10, h11⟩ := x_take (en := en) (d := d) (σ := rnS σ (nI j) f H) (F := F) (G := G) (b := b) (rn_XB hB) hP hS hw hw2 hr hch
  have hA' : AH H (fun a b => decide (ldS P (stR f j (stV P w N t ch nt (F' 11))) a b)) j := by
    intro j' hj' x hx
    rw [hA j' hj' x hx]
    refine bfo_cg (n := j) (fun k hk i hi => ?_) j' hj' x
    exact decide_eq_decide.mpr (ldS_cg (n := j) (fun r x hx => stR_o (by omega)) i k (by omega) hk)
  obtain ⟨H', e2, a2⟩ := l_144 (s := mS (rnS σ (nI (j + 1)) (stR f j (stV P w N t ch nt (F' 11))) H) 112 F' (stp P w N t ch nt) b' G') (en := en) (d := d + 3) (mrn_RV hB) hj hA'
  rw [mrn_H, mrn_H] at e2
  refine ⟨F', G', b', F' 11, H', le_X8_take en (d + 6) _ _ _ _ ?_, hF, h11, a2⟩
  have hc : (nI j).toNatClampNeg = j := n_cl (by omega)
  have hg : p_inB (nI j) 200 = true := n_in hj (by decide)
  have hl : (mS (rnS σ (nI j) f H) 112 F N b G).1 111 3 < (200 : Int32) := by
    rw [mrn_l, n_gt (by decide) (by omega)]; exact hj
  rw [if_pos hl, e, bV_some]
  simp only [nm_eq, mrn_l, mrn_wl, hc, gd_true hg, mrn_w0, mrn_w1, mrn_w2, mrn_w3, mS_m, h9, h10, n_ar]
  have fin : ∀ v4 : Int32, v4 = (if ch = 9 then -2 else P 9 (clp (N (4 + t)))) → L_X8_take_125 en (d + 6) (nI j) (nI j) v4 (mS (rnS σ (nI (j + 1)) (updR (updR (updR (updR f 0 j (nI t)) 1 j (nI ch)) 2 j (lnA P N t ch)) 3 j (acA P w N t ch nt)) H) 112 F' (stp P w N t ch nt) b' G') = some (none, mS (rnS σ (nI (j + 1)) (stR f j (stV P w N t ch nt (F' 11))) H') 112 F' (stp P w N t ch nt) b' G') := by
    rintro v4 rfl
    refine le_X8_take_125 en (d + 6) _ _ _ _ _ ?_
    simp only [nm_eq, hc, gd_true hg, mrn_w4, mrn_w5, mS_m]
    exact (congrArg (fun f6 => L_X8_take_144 en (d + 6) (nI j) (0 : Int32) (mS (rnS σ (nI (j + 1)) f6 H) 112 F' (stp P w N t ch nt) b' G')) (stR_6 (f := f) (j := j) (v := stV P w N t ch nt (F' 11)))).trans e2
  by_cases q9 : ch = 9
  · have el : lnA P N t ch = -2 := if_pos q9
    rw [if_neg (by rw [el]; decide)]
    exact fin (-2) (if_pos q9).symm
  · obtain ⟨i, hi, h4, h8⟩ := ln_rd hP hS hr q9
    have hn : n ≤ 100 := hP.2.2.2.1.2
    have el : lnA P N t ch = nI i := (if_neg q9).trans h4
    have hR : ∀ f6 : Nat → fI, (mS (rnS σ (nI (j + 1)) f6 H) 112 F' (stp P w N t ch nt) b' G').2.2 112 7 = p + 1 := fun f6 => hB.2.2.1
    have h5 : lc p = 5 := xb_lp hB
    rw [if_pos (by rw [el, n_le (by decide) (by omega)]; exact Nat.zero_le _), hR, gd_true ⟨by omega, h5⟩, el, gd_true (n_in (show i < 100 by omega) (by decide)), n_cl (by omega), ← el]
    refine fin _ ?_
    rw [if_neg q9, h4, show clp (nI i) = i from n_clp (by omega)]
    show (mS (rnS σ (nI (j + 1)) _ H) 112 F' (stp P w N t ch nt) b' G').1 (p + 9) i = P 9 i
    rw [xb_P (rn_XB hB) (by decide)]
end RT

