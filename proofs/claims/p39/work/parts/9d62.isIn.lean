/-! THE LAW'S OWN ARRAY; isIn; the script's numbers. -/
/-- the law's array stands beside the system's cells -/
def hM (m : Nat → Int32) : pH := (1, 64, p_up hX0.2.2 151 (.inl (0, 64, .inl m)))
def inS (m : Nat → Int32) (v : Int32) : Nat → Bool
  | 0 => false
  | k + 1 => inS m v k || decide (m k = v)
theorem inS_of {m : Nat → Int32} {v : Int32} {i : Nat} (h : m i = v) : ∀ n, i < n → inS m v n = true := by
  intro n
  induction n with
  | zero => intro hi; exact absurd hi (Nat.not_lt_zero i)
  | succ n ih =>
    intro hi
    show (inS m v n || decide (m n = v)) = true
    by_cases q : i < n
    · rw [ih q]; rfl
    · have e : i = n := by omega
      rw [← e, decide_eq_true h, Bool.or_true]
section ISN
variable {en : pN} {d many i j z M : Nat} {m : Nat → Int32} {v x : Int32} {σ : qS}
theorem hM_c : (heapOf (hM m) σ).2.2 151 = .inl (0, 64, .inl m) := by
  have e : qcell (hM m) σ 151 = (hM m).2.2 151 := if_neg (show ¬ 151 < qNC by decide)
  have e2 : (hM m).2.2 151 = .inl (0, 64, .inl m) := by
    show (if 151 = 151 then (.inl (0, 64, .inl m) : pE) else hX0.2.2 151) = _
    rw [if_pos rfl]
  exact e.trans e2
theorem hM_new : ((heapOf hX0 σ).1 + 1, (heapOf hX0 σ).2.1 + 64, p_up (heapOf hX0 σ).2.2 (heapOf hX0 σ).1 (.inl (0, 64, .inl (fun _ => 0)))) = heapOf (hM (fun _ => 0)) σ := by
  refine Prod.ext rfl (Prod.ext rfl (funext fun a => ?_))
  show p_up (qcell hX0 σ) 151 (.inl (0, 64, .inl (fun _ => 0))) a = qcell (hM (fun _ => 0)) σ a
  by_cases h : a < 151
  · have h1 : p_up (qcell hX0 σ) 151 (.inl (0, 64, .inl (fun _ => 0))) a = qcell hX0 σ a := if_neg (by omega)
    rw [h1]
    unfold qcell
    rw [if_pos (show a < qNC from h), if_pos (show a < qNC from h)]
  · have h2 : qcell (hM (fun _ => 0)) σ a = p_up hX0.2.2 151 (.inl (0, 64, .inl (fun _ => 0))) a := if_neg (show ¬ a < qNC from h)
    rw [h2]
    unfold p_up
    by_cases h3 : a = 151
    · rw [if_pos h3, if_pos h3]
    · rw [if_neg h3, if_neg h3]
      exact if_neg (show ¬ a < qNC from h)
theorem hM_set : ((heapOf (hM m) σ).1, (heapOf (hM m) σ).2.1, p_up (heapOf (hM m) σ).2.2 151 (.inl (0, 64, .inl (upd m i v)))) = heapOf (hM (upd m i v)) σ := by
  refine Prod.ext rfl (Prod.ext rfl (funext fun a => ?_))
  show p_up (qcell (hM m) σ) 151 (.inl (0, 64, .inl (upd m i v))) a = qcell (hM (upd m i v)) σ a
  by_cases h : a < 151
  · have h1 : p_up (qcell (hM m) σ) 151 (.inl (0, 64, .inl (upd m i v))) a = qcell (hM m) σ a := if_neg (by omega)
    rw [h1]
    unfold qcell
    rw [if_pos (show a < qNC from h), if_pos (show a < qNC from h)]
  · have h2 : qcell (hM (upd m i v)) σ a = p_up hX0.2.2 151 (.inl (0, 64, .inl (upd m i v))) a := if_neg (show ¬ a < qNC from h)
    have h4 : qcell (hM m) σ a = p_up hX0.2.2 151 (.inl (0, 64, .inl m)) a := if_neg (show ¬ a < qNC from h)
    rw [h2]
    unfold p_up
    by_cases h3 : a = 151
    · rw [if_pos h3, if_pos h3]
    · rw [if_neg h3, if_neg h3, h4]
      exact if_neg h3
theorem isIn_loop (hm : many ≤ 60) : ∀ (j i : Nat), i + j = many → xW (pev msL en d) en (some .boolean) tb_L_isIn (5, [(0, .ref 151), (1, .int (nI many)), (2, .int v), (3, .int (bt (inS m v i))), (4, .int (nI i))], []) (heapOf (hM m) σ) (some (.int (bt (inS m v many))), heapOf (hM m) σ) := by
  intro j
  induction j with
  | zero =>
    intro i hi
    obtain rfl : i = many := by omega
    generalize hb : inS m v i = b
    refine x_L 2 (f' := (8, [(0, .ref 151), (1, .int (nI i)), (2, .int v), (3, .int (bt b)), (4, .int (nI i))], [.int (nI i), .int (nI i)])) rfl ?_
    refine x_icm true rfl (decide_eq_true (nI_le (Nat.le_refl _) (by omega))) ?_
    refine x_L 1 (f' := (36, [(0, .ref 151), (1, .int (nI i)), (2, .int v), (3, .int (bt b)), (4, .int (nI i))], [.int (bt b)])) rfl ?_
    exact x_ret rfl (by cases b <;> rfl)
  | succ j ih =>
    intro i hi
    have hlt : i < many := by omega
    have hIH := ih (i + 1) (by omega)
    have hs : inS m v (i + 1) = (inS m v i || decide (m i = v)) := rfl
    have one : inS m v (i + 1) = true → xW (pev msL en d) en (some .boolean) tb_L_isIn (23, [(0, .ref 151), (1, .int (nI many)), (2, .int v), (3, .int (bt (inS m v i))), (4, .int (nI i))], []) (heapOf (hM m) σ) (some (.int (bt (inS m v many))), heapOf (hM m) σ) := by
      intro h1
      rw [h1] at hIH
      generalize inS m v i = b
      generalize inS m v many = b2 at hIH ⊢
      refine x_L 5 (f' := (5, [(4, .int (nI i + 1)), (3, .int 1), (0, .ref 151), (1, .int (nI many)), (2, .int v)], [])) rfl ?_
      rw [nI_1]
      exact x_sub (qsubL [2, 3, 4, 1, 0] rfl (ks := [4, 3, 0, 1, 2]) rfl (by decide)) hIH
    generalize hb : inS m v i = b at one hs ⊢
    refine x_L 2 (f' := (8, [(0, .ref 151), (1, .int (nI many)), (2, .int v), (3, .int (bt b)), (4, .int (nI i))], [.int (nI many), .int (nI i)])) rfl ?_
    refine x_icm false rfl (decide_eq_false (nI_ge hlt (by omega))) ?_
    refine x_L 1 (f' := (12, [(0, .ref 151), (1, .int (nI many)), (2, .int v), (3, .int (bt b)), (4, .int (nI i))], [.int (bt b)])) rfl ?_
    cases b with
    | true =>
      refine x_ifz true rfl (by decide) ?_
      exact one (by rw [hs]; rfl)
    | false =>
      refine x_ifz false rfl (by decide) ?_
      refine x_L 2 (f' := (18, [(0, .ref 151), (1, .int (nI many)), (2, .int v), (3, .int (bt false)), (4, .int (nI i))], [.int (nI i), .ref 151])) rfl ?_
      refine x_H ((19, [(0, .ref 151), (1, .int (nI many)), (2, .int v), (3, .int (bt false)), (4, .int (nI i))], [.int (m i)]), heapOf (hM m) σ) rfl rfl rfl rfl ?_ ?_
      · simp only [pstepH, hM_c]
        rw [if_pos ⟨show 151 < qNC + 1 by decide, n_in (by omega) (by decide)⟩, n_cl (by omega)]
      refine x_L 1 (f' := (20, [(0, .ref 151), (1, .int (nI many)), (2, .int v), (3, .int (bt false)), (4, .int (nI i))], [.int v, .int (m i)])) rfl ?_
      by_cases q : m i = v
      · refine x_icm false rfl (decide_eq_false (not_not_intro q)) ?_
        exact one (by rw [hs, decide_eq_true q]; rfl)
      · refine x_icm true rfl (decide_eq_true q) ?_
        have h0 : inS m v (i + 1) = false := by rw [hs, decide_eq_false q]; rfl
        rw [h0] at hIH
        generalize inS m v many = b2 at hIH ⊢
        refine x_L 4 (f' := (5, [(4, .int (nI i + 1)), (3, .int 0), (0, .ref 151), (1, .int (nI many)), (2, .int v)], [])) rfl ?_
        rw [nI_1]
        exact x_sub (qsubL [2, 3, 4, 1, 0] rfl (ks := [4, 3, 0, 1, 2]) rfl (by decide)) hIH
theorem x_isIn (hm : many ≤ 60) : pev msL en (d + 1) 442 [.ref 151, .int (nI many), .int v] (heapOf (hM m) σ) = some (some (.int (bt (inS m v many))), heapOf (hM m) σ) := by
  refine x_enter ix_L_isIn (Nat.le_of_ble_eq_true rfl) ?_
  show xW _ en (some .boolean) tb_L_isIn (0, [(0, .ref 151), (1, .int (nI many)), (2, .int v)], []) _ _
  refine x_L 4 (f' := (5, [(4, .int 0), (3, .int 0), (0, .ref 151), (1, .int (nI many)), (2, .int v)], [])) rfl ?_
  exact x_sub (qsubL [2, 3, 4, 1, 0] rfl (ks := [4, 3, 0, 1, 2]) rfl (by decide)) (isIn_loop hm many 0 (by omega))
/-! numbers -/
theorem n_rem (hz : z < 2 ^ 31) (hj : j < 2 ^ 31) : nI z - nI z / nI j * nI j = nI (z % j) := by
  rw [n_dv hz hj, n_mul, n_sub (Nat.div_mul_le_self z j)]
  have := Nat.div_add_mod z j
  rw [Nat.mul_comm] at this
  congr 1
  omega
theorem n_mask (k : Int32) (hk : k.toBitVec.toNat = M) : ∃ U, U ≤ M ∧ x &&& k = nI U := by
  refine ⟨(x &&& k).toBitVec.toNat, ?_, ?_⟩
  · rw [Int32.toBitVec_and, BitVec.toNat_and, ← hk]
    exact Nat.and_le_right
  · rw [← Int32.toBitVec_inj]
    apply BitVec.eq_of_toNat_eq
    show _ = (BitVec.ofNat 32 _).toNat
    rw [BitVec.toNat_ofNat]
    exact (Nat.mod_eq_of_lt (x &&& k).toBitVec.isLt).symm
end ISN
