/-! THE CLASS'S LIST of ready steps; sorts, locks of a thread; the first state. -/
def rowL (l : List Nat) (R : fI) : fI := fun j => match l[j]? with
  | some v => nI v
  | none => R j
theorem rowL_nil {R : fI} : rowL [] R = R := rfl
theorem rowL_add {l : List Nat} {R : fI} {v : Nat} : upd (rowL l R) l.length (nI v) = rowL (l ++ [v]) R := by
  funext j
  unfold rowL
  by_cases h : j = l.length
  · subst h
    rw [pk_us]
    simp
  · rw [pk_un h]
    rcases Nat.lt_or_ge j l.length with q | q
    · rw [List.getElem?_append_left q]
    · rw [List.getElem?_append_right q, List.getElem?_eq_none q]
      have : (([v] : List Nat))[j - l.length]? = none := List.getElem?_eq_none (by simp only [List.length_cons, List.length_nil]; omega)
      rw [this]
theorem rowL_at {l : List Nat} {R : fI} {j : Nat} (h : j < l.length) : rowL l R j = nI l[j] := by
  unfold rowL
  rw [List.getElem?_eq_getElem h]
/-- the steps of thread t that are ready, of the threads up to t -/
def rdT (P : Nat → fI) (w : Nat) (N : fI) (nt t : Nat) : List Nat := (List.range (chs P w N t nt)).map (fun k => 10 * t + k) ++ (if N (56 + t) = 0 then [] else [10 * t + 9])
def rdl (P : Nat → fI) (w : Nat) (N : fI) (nt : Nat) : Nat → List Nat
  | 0 => []
  | t + 1 => rdl P w N nt t ++ rdT P w N nt t
theorem rdT_len {P : Nat → fI} {w nt t : Nat} {N : fI} (h : chs P w N t nt ≤ 9) : (rdT P w N nt t).length ≤ 10 := by
  unfold rdT
  rw [List.length_append, List.length_map, List.length_range]
  split
  · simp only [List.length_nil]; omega
  · simp only [List.length_cons, List.length_nil]; omega
section XD
variable {en : pN} {d m p t c k a w i n l u ch q o nc nl nt : Nat} {v x b : Int32} {σ : qS} {P : Nat → fI} {F N G R : fI}
theorem xb_Ir (hB : XB σ m p P) : XB (uIr σ (m + 3) R) m p P := by
  obtain ⟨h1, h2, h3, h4, h5, h6⟩ := hB
  refine ⟨h1, h2, h3, fun a ha => ?_, ?_, ?_⟩
  · rw [uIr_ne (by omega)]; exact h4 a ha
  · rw [uIr_ne (by omega)]; exact h5
  · rw [uIr_ne (by omega)]; exact h6
theorem mS_r (hm : m = 71 ∨ m = 112) : uI (mS (uIr σ (m + 3) R) m F N b G) (m + 3) k v = mS (uIr σ (m + 3) (upd R k v)) m F N b G := by
  refine Prod.ext (funext fun a => funext fun j => ?_) rfl
  show (if a = m + 3 ∧ j = k then v else if a = m then F j else if a = m + 1 then N j else if a = 10 then G j else if a = 7 ∧ j = 4 then b else if a = m + 3 then R j else σ.1 a j) = if a = m then F j else if a = m + 1 then N j else if a = 10 then G j else if a = 7 ∧ j = 4 then b else if a = m + 3 then upd R k v j else σ.1 a j
  by_cases h : a = m + 3
  · rw [if_neg (show ¬ a = m by omega), if_neg (show ¬ a = m by omega), if_neg (show ¬ a = m + 1 by omega), if_neg (show ¬ a = m + 1 by omega), if_neg (show ¬ a = 10 by omega), if_neg (show ¬ a = 10 by omega), if_neg (show ¬ (a = 7 ∧ j = 4) by omega), if_neg (show ¬ (a = 7 ∧ j = 4) by omega), if_pos h, if_pos h]
    by_cases q : j = k
    · rw [if_pos ⟨h, q⟩, q, pk_us]
    · rw [if_neg (fun z => q z.2), pk_un q]
  · rw [if_neg (fun z => h z.1), if_neg h, if_neg h]
theorem mS_r0 : mS σ m F N b G = mS (uIr σ (m + 3) (σ.1 (m + 3))) m F N b G := by
  have : uIr σ (m + 3) (σ.1 (m + 3)) = σ := by
    refine Prod.ext (funext fun a => funext fun j => ?_) rfl
    show (if a = m + 3 then σ.1 (m + 3) j else σ.1 a j) = _
    by_cases h : a = m + 3
    · rw [if_pos h, h]
    · rw [if_neg h]
  rw [this]
theorem x_lr26 {r : qR} (hB : XB σ m p P) (hlN : ∀ (F' : fI) (b' : Int32) (G' R : fI), True) (ht : t < 4) (hc9 : c ≤ 9) (hq : N (56 + t) = nI q) (hq3 : q ≤ 3) : ∀ (k j : Nat) (l : List Nat) (F : fI), j + k = c → l.length + k ≤ 39 → F 3 = nI l.length →
    (∀ F' : fI, F' 3 = nI (l ++ ((List.range k).map (fun z => 10 * t + (j + z)) ++ (if N (56 + t) = 0 then [] else [10 * t + 9]))).length → (∀ z, z ≠ 3 → F' z = F z) → L_X3_listReady_7 en d m (nI (t + 1)) (mS (uIr σ (m + 3) (rowL (l ++ ((List.range k).map (fun z => 10 * t + (j + z)) ++ (if N (56 + t) = 0 then [] else [10 * t + 9]))) R)) m F' N b G) = some r) →
    L_X3_listReady_26 en d m (nI t) (nI c) (nI j) (mS (uIr σ (m + 3) (rowL l R)) m F N b G) = some r := by
  intro k
  induction k with
  | zero =>
    intro j l F hj hl hF hk
    obtain rfl : j = c := by omega
    refine le_X3_listReady_26 en d m _ _ _ _ _ ?_
    simp (disch := omega) only [xb_lm hB, gdT, n_LE, if_pos, n_al, n_in, n_cl, mS_n, hq, n_ge]
    by_cases q0 : q = 0
    · rw [if_pos (by omega), n_ar]
      have e : N (56 + t) = 0 := by rw [hq, q0]; rfl
      have hk := hk F (by rw [e]; simpa using hF) (fun _ _ => rfl)
      rw [e] at hk
      simpa using hk
    · rw [if_neg (by omega)]
      have e : ¬ N (56 + t) = 0 := by rw [hq, n_eq (by decide) (by omega)]; exact q0
      have hk := hk (upd F 3 (nI (l.length + 1))) (by rw [pk_us, if_neg e]; simp) (fun z hz => pk_un hz)
      rw [if_neg e] at hk
      simp only [List.range_zero, List.map_nil, List.nil_append] at hk
      simp (disch := omega) only [mS_m, hF, n_in, gdT, n_cl, nm_eq, n_mr, n_ar, mS_r hB.1, mS_wm]
      rw [Nat.mul_comm t 10, rowL_add]
      exact hk
  | succ k ih =>
    intro j l F hj hl hF hk
    refine le_X3_listReady_26 en d m _ _ _ _ _ ?_
    simp (disch := omega) only [xb_lm hB, gdT, n_LE, if_neg, mS_m, hF, n_in, n_cl, nm_eq, n_mr, nI_add, mS_r hB.1, mS_wm, n_ar]
    rw [Nat.mul_comm t 10, rowL_add]
    refine ih (j + 1) (l ++ [10 * t + j]) (upd F 3 (nI (l.length + 1))) (by omega) (by rw [List.length_append]; simp only [List.length_cons, List.length_nil]; omega) (by rw [pk_us, List.length_append]; rfl) ?_
    intro F' h1 h2
    have e : l ++ [10 * t + j] ++ ((List.range k).map (fun z => 10 * t + (j + 1 + z)) ++ (if N (56 + t) = 0 then [] else [10 * t + 9])) = l ++ ((List.range (k + 1)).map (fun z => 10 * t + (j + z)) ++ (if N (56 + t) = 0 then [] else [10 * t + 9])) := by
      rw [List.range_succ_eq_map, List.map_cons, List.map_map, List.append_assoc]
      congr 1
      rw [List.cons_append]
      show [10 * t + j] ++ _ = [10 * t + (j + 0)] ++ _
      congr 2
      refine List.map_congr_left fun z _ => ?_
      show 10 * t + (j + 1 + z) = 10 * t + (j + (z + 1))
      omega
    rw [e] at h1 ⊢
    exact hk F' h1 (fun z hz => by rw [h2 z hz, pk_un hz])
theorem x_list (hB : XB σ m p P) (hP : PV P nc nl nt n) (hS : SV P w nc nl nt n N) (hw : F 8 = nI w) (hw2 : w ≤ 2) : ∃ (F' G' R' : fI) (b' : Int32), qev en (d + 6) 42 [.ref m] (mS σ m F N b G) = some (some (.int (nI (rdl P w N nt nt).length)), mS (uIr σ (m + 3) R') m F' N b' G') ∧ (∀ j, j ≠ 3 → F' j = F j) ∧ F' 3 = nI (rdl P w N nt nt).length ∧ (∀ (j : Nat) (h : j < (rdl P w N nt nt).length), R' j = nI (rdl P w N nt nt)[j]) ∧ (rdl P w N nt nt).length ≤ 40 := by
  have hP' := hP
  have hS' := hS
  obtain ⟨-, -, ⟨ht0, ht4⟩, -, -, -⟩ := hP
  obtain ⟨-, -, -, -, Sq, -⟩ := hS
  have hlen : ∀ t, t ≤ nt → (rdl P w N nt t).length ≤ 10 * t := by
    intro t
    induction t with
    | zero => intro _; exact Nat.le_refl _
    | succ t ih =>
      intro ht
      have h1 := ih (by omega)
      have h2 := rdT_len (ch_le hP' hS' (show t < nt by omega))
      show (rdl P w N nt t ++ rdT P w N nt t).length ≤ _
      rw [List.length_append]
      omega
  have go : ∀ (k t : Nat) (F1 G1 : fI) (b1 : Int32), t + k = nt → (∀ j, j ≠ 3 → F1 j = F j) → F1 3 = nI (rdl P w N nt t).length → ∃ (F' G' R' : fI) (b' : Int32), L_X3_listReady_7 en (d + 5) m (nI t) (mS (uIr σ (m + 3) (rowL (rdl P w N nt t) (σ.1 (m + 3)))) m F1 N b1 G1) = some (some (.int (nI (rdl P w N nt nt).length)), mS (uIr σ (m + 3) R') m F' N b' G') ∧ (∀ j, j ≠ 3 → F' j = F j) ∧ F' 3 = nI (rdl P w N nt nt).length ∧ (∀ (j : Nat) (h : j < (rdl P w N nt nt).length), R' j = nI (rdl P w N nt nt)[j]) := by
    intro k
    induction k with
    | zero =>
      intro t F1 G1 b1 hk h1 h2
      obtain rfl : t = nt := by omega
      refine ⟨F1, G1, rowL (rdl P w N t t) (σ.1 (m + 3)), b1, le_X3_listReady_7 en (d + 5) m _ _ _ ?_, h1, h2, fun j h => rowL_at h⟩
      have hB2 := xb_Ir (R := rowL (rdl P w N t t) (σ.1 (m + 3))) hB
      simp (disch := omega) only [xb_lm hB, gdT, gdP (xb_lp hB), xb_R hB2, Nat.add_sub_cancel, nm_eq, xb_P0 hB2, ht0, n_LE, if_pos, mS_m, h2]
    | succ k ih =>
      intro t F1 G1 b1 hk h1 h2
      have hB2 := xb_Ir (R := rowL (rdl P w N nt t) (σ.1 (m + 3))) hB
      obtain ⟨G', b', hch⟩ := x_choices (en := en) (d := d) (F := F1) (b := b1) (G := G1) hB2 hP' hS' (by rw [h1 8 (by decide)]; exact hw) hw2 (show t < nt by omega)
      obtain ⟨q, hq, hq3⟩ := sv_q Sq (show t < 4 by omega)
      have c9 := ch_le hP' hS' (show t < nt by omega)
      have hln := hlen t (by omega)
      -- what comes behind this thread, whatever the fields are
      have key : ∃ (F' G'' R' : fI) (b'' : Int32), L_X3_listReady_26 en (d + 5) m (nI t) (nI (chs P w N t nt)) (nI 0) (mS (uIr σ (m + 3) (rowL (rdl P w N nt t) (σ.1 (m + 3)))) m F1 N b' G') = some (some (.int (nI (rdl P w N nt nt).length)), mS (uIr σ (m + 3) R') m F' N b'' G'') ∧ (∀ j, j ≠ 3 → F' j = F j) ∧ F' 3 = nI (rdl P w N nt nt).length ∧ (∀ (j : Nat) (h : j < (rdl P w N nt nt).length), R' j = nI (rdl P w N nt nt)[j]) := by
        have e : rdl P w N nt t ++ ((List.range (chs P w N t nt)).map (fun z => 10 * t + (0 + z)) ++ (if N (56 + t) = 0 then [] else [10 * t + 9])) = rdl P w N nt (t + 1) := by
          show _ = rdl P w N nt t ++ rdT P w N nt t
          unfold rdT
          simp only [Nat.zero_add]
        obtain ⟨F', G'', R', b'', g1, g2, g3, g4⟩ := ih (t + 1) (upd F1 3 (nI (rdl P w N nt (t + 1)).length)) G' b' (by omega) (fun j hj => by rw [pk_un hj]; exact h1 j hj) pk_us
        refine ⟨F', G'', R', b'', ?_, g2, g3, g4⟩
        refine x_lr26 hB (fun _ _ _ _ => trivial) (by omega) c9 hq hq3 (chs P w N t nt) 0 (rdl P w N nt t) F1 (by omega) (by omega) h2 ?_
        intro F2 f1 f2
        rw [e] at f1 ⊢
        have : F2 = upd F1 3 (nI (rdl P w N nt (t + 1)).length) := by
          funext j
          by_cases hj : j = 3
          · rw [hj, pk_us]; exact f1
          · rw [pk_un hj]; exact f2 j hj
        rw [this]
        exact g1
      obtain ⟨F', G'', R', b'', g1, g2, g3, g4⟩ := key
      refine ⟨F', G'', R', b'', le_X3_listReady_7 en (d + 5) m _ _ _ ?_, g2, g3, g4⟩
      simp (disch := omega) only [xb_lm hB, gdT, gdP (xb_lp hB), xb_R hB2, Nat.add_sub_cancel, nm_eq, xb_P0 hB2, ht0, n_LE, if_neg, hch, bI_some]
      exact g1
  obtain ⟨F', G', R', b', g1, g2, g3, g4⟩ := go nt 0 (upd F 3 0) G b (by omega) (fun j hj => pk_un hj) pk_us
  refine ⟨F', G', R', b', le_X3_listReady en (d + 5) m _ _ ?_, g2, g3, g4, by have := hlen nt (Nat.le_refl _); omega⟩
  simp only [xb_lm hB, gdT, nm_eq, mS_wm]
  rw [mS_r0]
  exact g1
end XD

