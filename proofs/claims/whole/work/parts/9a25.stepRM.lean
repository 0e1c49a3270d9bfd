/-! THE RUN, the model's side: a step of it. -/
section ST
variable {en : pN} {d w nc nl nt n t ch len k r : Nat} {σ : qS} {P : Nat → fI} {K W F s y gg N : fI} {g : Nat → fI} {X : fJ} {D : Int64} {v : Int32}
theorem mk_w0 : uI (mM (kpS σ K W g X) F s y gg D) 193 k v = mM (kpS σ K W (updR g 0 k v) X) F s y gg D := mk_wg (r := 0) (by decide)
theorem mk_w1 : uI (mM (kpS σ K W g X) F s y gg D) 194 k v = mM (kpS σ K W (updR g 1 k v) X) F s y gg D := mk_wg (r := 1) (by decide)
theorem mk_w2 : uI (mM (kpS σ K W g X) F s y gg D) 195 k v = mM (kpS σ K W (updR g 2 k v) X) F s y gg D := mk_wg (r := 2) (by decide)
theorem mk_w3 : uI (mM (kpS σ K W g X) F s y gg D) 196 k v = mM (kpS σ K W (updR g 3 k v) X) F s y gg D := mk_wg (r := 3) (by decide)
theorem mk_w4 : uI (mM (kpS σ K W g X) F s y gg D) 197 k v = mM (kpS σ K W (updR g 4 k v) X) F s y gg D := mk_wg (r := 4) (by decide)
theorem mk_w5 : uI (mM (kpS σ K W g X) F s y gg D) 198 k v = mM (kpS σ K W (updR g 5 k v) X) F s y gg D := mk_wg (r := 5) (by decide)
theorem mM_D : (mM σ F s y gg D).2.1 151 72 = D := by
  show (if (151 : Nat) = 151 ∧ (72 : Nat) = 72 then D else σ.2.1 151 72) = D
  exact if_pos ⟨rfl, rfl⟩
/-- what the model's rows say of a step -/
def msV (t ch : Nat) (F : fI) : Nat → Int32 := fun r => if r = 0 then nI t else if r = 1 then nI ch else F (66 + r)
/-- what holds behind a step of the run -/
def srQ (σ : qS) (P : Nat → fI) (w : Nat) (N : fI) (t ch nt len : Nat) (F : fI) (g : Nat → fI) (X : fJ) (r : qR) : Prop := ∃ (K' W' F1 F' s' y' gg' : fI) (D' : Int64), r = (none, mM (kpS σ K' W' (stR g len (msV t ch F1)) (updJ X len D')) F' s' y' gg' D') ∧ MR w (stp P w N t ch nt) K' ∧ (∀ u, u < nt → W' u = stp P w N t ch nt (8 + u)) ∧ F' 78 = nI (len + 1) ∧ F' 76 = nI w ∧ (∀ j, (j < 62 ∨ 74 ≤ j) → j ≠ 76 → j ≠ 78 → F' j = F j) ∧ F1 68 = lnA P N t ch ∧ F1 69 = acA P w N t ch nt ∧ (ch ≠ 9 → F1 70 = P 9 (clp (N (4 + t)))) ∧ (acA P w N t ch nt = 15 ∨ acA P w N t ch nt = 16 → F1 71 = exr (exv P 5 N (clp (N (4 + t))))) ∧ (ch ≠ 9 → D' = σ.2.1 180 (300 + clp (N (4 + t))))
theorem m_stepRun (hB : MB σ 3 P nc nl nt n) (hP : PV P nc nl nt n) (hS : SV P w nc nl nt n N) (hF : MF F w 3 nc nl nt) (hR : MR w N s) (hw2 : w ≤ 2) (hr : rdS P w N t ch nt) (hch : ch < 10) (h78 : F 78 = nI len) (hlen : len < 200) (hW : ∀ u, u < nt → W u = N (8 + u)) : exQ (qev en (d + 7) 334 [.ref 151, .int (nI t), .int (nI ch)] (mM (kpS σ K W g X) F s y gg D)) (srQ σ P w N t ch nt len F g X) := by
  have ht4 := hP.2.2.1.2
  have base : exQ (L_X12_stepRun_2 en (d + 6) (nI t) (nI ch) (nI 4) (mM (kpS σ K W g X) F s (cpf y W 4) gg D)) (srQ σ P w N t ch nt len F g X) := by
    refine exQ.le (le_X12_stepRun_2 en (d + 6) _ _ _ _) ?_
    rw [if_pos (by decide)]
    obtain ⟨r, e, F1, s1, y1, g1, D1, rfl, hFE, hR1, b68, b69, b70, b71, bD, -, by1⟩ := m_step (en := en) (d := d) (g := gg) (D := D) (y := cpf y W 4) (kp_MB (K := K) (W := W) (g := g) (X := X) hB) hP hS hF hR hw2 hr hch
    have by1 := by1 (fun u hu => by rw [cpf_l (by omega)]; exact hW u hu)
    have f78 : F1 78 = nI len := (hFE 78 (by decide)).trans h78
    have f58 : F1 58 = nI w := (hFE 58 (by decide)).trans hF.2.2.2.1
    have hg : p_inB (nI len) 200 = true := n_in hlen (by decide)
    have hc : (nI len).toNatClampNeg = len := n_cl (by omega)
    rw [e, bV_some]
    simp only [nm_eq, mM_F, f78, gd_true hg, hc, mk_w0, mk_w1, mk_w2, mk_w3, mk_w4, mk_w5, mM_D, mk_wX, mM_wF, n_ar]
    rw [show (updR (updR (updR (updR (updR (updR g 0 len (nI t)) 1 len (nI ch)) 2 len (F1 68)) 3 len (F1 69)) 4 len (F1 70)) 5 len (F1 71)) = stR g len (msV t ch F1) from stR_6 (v := msV t ch F1), m_keepRun, bV_some]
    refine exQ.ret ⟨cpf K s1 216, cpf W y1 4, F1, _, s1, y1, g1, D1, rfl, MR_cpf hR1, fun u hu => ?_, ?_, ?_, fun j hj h1 h2 => ?_, b68, b69, b70, b71, bD⟩
    · rw [cpf_l (by omega)]; exact by1 u hu
    · rw [pk_un (by decide), pk_us]
    · rw [pk_us, pk_un (by decide), f58]
    · rw [pk_un h1, pk_un h2]
      exact hFE j hj
  have loop : ∀ m i : Nat, i + m = 4 → exQ (L_X12_stepRun_2 en (d + 6) (nI t) (nI ch) (nI i) (mM (kpS σ K W g X) F s (cpf y W i) gg D)) (srQ σ P w N t ch nt len F g X) := by
    intro m
    induction m with
    | zero =>
      intro i hi
      rw [show i = 4 by omega]
      exact base
    | succ m ih =>
      intro i hi
      refine exQ.le (le_X12_stepRun_2 en (d + 6) _ _ _ _) ?_
      rw [if_neg (by rw [n_le (by decide) (by omega)]; show ¬ 4 ≤ i; omega), gd_true (n_in (by omega) (by decide)), mk_W, n_cl (by omega), mM_wy, cpf_s, n_ar]
      exact ih (i + 1) (by omega)
  refine exQ.le (le_X12_stepRun en (d + 6) _ _ _) ?_
  have h := loop 4 0 (by decide)
  rw [cpf_0] at h
  exact h
end ST
