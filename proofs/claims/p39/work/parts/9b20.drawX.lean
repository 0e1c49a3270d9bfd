/-! CHANCES, the class's side: orders of threads. -/
/-- what the drawn runs may change of the rows below -/
abbrev drF (σ σ' : qS) : Prop := (∀ c, c ≠ 95 → σ'.1 c = σ.1 c) ∧ (∀ a, a ≠ 94 → σ'.2.1 a = σ.2.1 a) ∧ σ'.2.2 = σ.2.2
section CHX
variable {en : pN} {d p nc nl nt n t k r m rest : Nat} {P : Nat → fI} {σ σ' σ'' s : qS} {F N G : fI} {b : Int32} {L : Nat → Nat}
theorem drF.rf : drF σ σ := ⟨fun _ _ => rfl, fun _ _ => rfl, rfl⟩
theorem drF.tr (h : drF σ σ') (g : drF σ' σ'') : drF σ σ'' := ⟨fun c hc => (g.1 c hc).trans (h.1 c hc), fun a ha => (g.2.1 a ha).trans (h.2.1 a ha), g.2.2.trans h.2.2⟩
theorem insA_at {l : List Nat} (hr : r ≤ l.length) (i : Nat) : (insA l r t).getD i 0 = if i < r then l.getD i 0 else if i = r then t else l.getD (i - 1) 0 := by
  unfold insA
  have hlen : (l.take r).length = r := by rw [List.length_take]; omega
  by_cases q : i < r
  · rw [if_pos q, List.getD_eq_getElem?_getD, List.getElem?_append_left (by omega), List.getElem?_take_of_lt q, ← List.getD_eq_getElem?_getD]
  · rw [if_neg q, List.getD_eq_getElem?_getD, List.getElem?_append_right (by omega), hlen]
    by_cases q2 : i = r
    · rw [if_pos q2, q2, Nat.sub_self]; rfl
    · rw [if_neg q2]
      have e : i - r = (i - r - 1) + 1 := by omega
      rw [e, List.getElem?_cons_succ, List.getElem?_drop, ← List.getD_eq_getElem?_getD, show r + (i - r - 1) = i - 1 by omega]
theorem insA_len {l : List Nat} (hr : r ≤ l.length) : (insA l r t).length = l.length + 1 := by
  unfold insA
  rw [List.length_append, List.length_cons, List.length_take, List.length_drop]
  omega
theorem x_arr16 (hnt : nt ≤ 4) : ∀ (m t rest : Nat) (l : List Nat) (s : qS), t + m = nt → l.length = t → rest < 2 ^ 31 → (∀ i, i < t → s.1 95 i = nI (l.getD i 0)) → ∃ s', L_X10_arrange_16 en d (nI nt) (nI rest) (nI t) s = some (none, s') ∧ (∀ i, i < nt → s'.1 95 i = nI ((arrG m t rest l).getD i 0)) ∧ (∀ c, c ≠ 95 → s'.1 c = s.1 c) ∧ s'.2 = s.2 := by
  intro m
  induction m with
  | zero =>
    intro t rest l s ht hl hr h95
    refine ⟨s, le_X10_arrange_16 en _ _ _ _ _ _ ?_, fun i hi => h95 i (by omega), fun _ _ => rfl, rfl⟩
    rw [if_pos (by rw [n_LE (by omega) (by omega)]; omega)]
  | succ m ih =>
    intro t rest l s ht hl hr h95
    have hm : rest % (t + 1) ≤ t := by
      have := Nat.mod_lt rest (show 0 < t + 1 by omega)
      omega
    have hd : rest / (t + 1) ≤ rest := Nat.div_le_self _ _
    generalize hrr : rest % (t + 1) = r at hm
    let s1 : qS := uI (uIr s 95 (va_cpy (s.1 95) (s.1 95) r (r + 1) (t - r))) 95 r (nI t)
    have e1 : ∀ i, i < t + 1 → s1.1 95 i = nI ((insA l r t).getD i 0) := fun i hi => by
      rw [insA_at (by omega)]
      show (uI (uIr s 95 _) 95 r (nI t)).1 95 i = _
      rw [uI_row, uIr_row]
      by_cases q : i = r
      · rw [q, pk_us, if_neg (Nat.lt_irrefl r), if_pos rfl]
      · rw [pk_un q, if_neg q]
        show (if r + 1 ≤ i ∧ i < r + 1 + (t - r) then s.1 95 (r + (i - (r + 1))) else s.1 95 i) = _
        by_cases q2 : i < r
        · rw [if_neg (by omega), if_pos q2]; exact h95 i (by omega)
        · rw [if_pos (by omega), if_neg q2, show r + (i - (r + 1)) = i - 1 by omega]; exact h95 _ (by omega)
    obtain ⟨s', a1, a2, a3, a4⟩ := ih (t + 1) (rest / (t + 1)) (insA l r t) s1 (by omega) (by rw [insA_len (by omega), hl]) (by omega) e1
    refine ⟨s', le_X10_arrange_16 en _ _ _ _ _ _ ?_, fun i hi => ?_, fun c hc => (a3 c hc).trans ((uI_ne hc).trans (uIr_ne hc)), a4⟩
    · have et : nI t + (1 : Int32) = nI (t + 1) := n_ar
      have er : nI r + (1 : Int32) = nI (r + 1) := n_ar
      have ediv : nI rest / nI (t + 1) = nI (rest / (t + 1)) := n_dv hr (by omega)
      have hmul : rest / (t + 1) * (t + 1) ≤ rest := Nat.div_mul_le_self _ _
      have emod : nI rest - nI rest / nI (t + 1) * nI (t + 1) = nI r := by
        rw [ediv, n_mul, n_sub hmul]
        congr 1
        have := Nat.div_add_mod rest (t + 1)
        rw [hrr, Nat.mul_comm] at this
        omega
      have hne : ¬ nI (t + 1) = 0 := by rw [show (0 : Int32) = nI 0 from rfl, n_EQ (by omega) (by omega)]; omega
      rw [if_neg (by rw [n_LE (by omega) (by omega)]; omega), et, gd_true hne, emod, nm_eq, gd_true hne, ediv, nm_eq, er, n_sub hm, gd_true ⟨⟨nI_pos (by omega), nI_pos (by omega), nI_pos (by omega)⟩, by rw [n_cl (by omega), n_cl (by omega)]; omega, by rw [n_cl (by omega), n_cl (by omega)]; omega⟩, n_cl (by omega), n_cl (by omega), n_cl (by omega), nm_eq, gd_true (n_in (by omega) (by decide)), nm_eq]
      exact a1
    · rw [a2 i hi]
      show _ = nI ((arrG m (t + 1) (rest / (t + 1)) (insA l (rest % (t + 1)) t)).getD i 0)
      rw [hrr]
theorem x_arrange (hnt : nt ≤ 4) (hp : p = 11 ∨ p = 36) (h7 : s.2.2 71 7 = p + 1) (h11 : s.1 p 11 = nI nt) {code : Nat} (hc : code < 2 ^ 31) : ∃ s', qev en (d + 1) 198 [.ref 70, .int (nI code)] s = some (none, s') ∧ (∀ i, i < nt → s'.1 95 i = nI (gtL (arrL nt code) i)) ∧ (∀ c, c ≠ 95 → s'.1 c = s.1 c) ∧ s'.2 = s.2 := by
  obtain ⟨s', a1, a2, a3⟩ := x_arr16 (en := en) (d := d) hnt nt 0 code [] s (by omega) rfl hc (fun i hi => absurd hi (Nat.not_lt_zero _))
  refine ⟨s', le_X10_arrange en _ _ _ _ ?_, a2, a3⟩
  rw [h7, gd_true ⟨by omega, by rcases hp with z | z <;> subst z <;> rfl⟩, nm_eq, Nat.add_sub_cancel, h11]
  exact a1
theorem mS_22 : (mS σ 71 F N b G).2.2 = σ.2.2 := rfl
theorem xb_nt (hB : XB σ 71 p P) (hP : PV P nc nl nt n) : (mS σ 71 F N b G).1 p 11 = nI nt := by
  have hp := hB.2.1
  have h := hB.2.2.2.1 0 (by decide)
  rw [Nat.add_zero] at h
  rw [mS_o (by omega) (by omega) (by omega) (by omega), h]
  exact hP.2.2.1.1
theorem x_firstR (hB : XB σ 71 p P) (hP : PV P nc nl nt n) (hS : SV P 0 nc nl nt n N) (hw : F 8 = nI 0) (hL : ∀ i, i < nt → L i < nt) (h95 : ∀ i, i < nt → σ.1 95 i = nI (L i)) : ∀ (m i : Nat) (b : Int32) (G : fI), i + m = nt → ∃ (G' : fI) (b' : Int32), L_X10_firstReady_2 en (d + 5) (nI i) (mS σ 71 F N b G) = some (some (.int (match pkF (fun t => chs P 0 N t nt) L m i with
    | some r => nI r
    | none => -1)), mS σ 71 F N b' G') := by
  have ht4 := hP.2.2.1.2
  have hp := hB.2.1
  intro m
  induction m with
  | zero =>
    intro i b G hi
    refine ⟨G, b, le_X10_firstReady_2 en _ _ _ _ ?_⟩
    rw [mS_22, hB.2.2.1, gd_true ⟨by omega, by rcases hp with z | z <;> subst z <;> rfl⟩, nm_eq, Nat.add_sub_cancel, xb_nt hB hP, if_pos (by rw [n_LE (by omega) (by omega)]; omega)]
    rfl
  | succ m ih =>
    intro i b G hi
    have hLi := hL i (by omega)
    have h9 := ch_le hP hS hLi
    obtain ⟨G1, b1, e44⟩ := x_choices (en := en) (d := d) (σ := σ) (F := F) (N := N) (G := G) (b := b) hB hP hS hw (by decide) hLi
    have e : pkF (fun t => chs P 0 N t nt) L (m + 1) i = if 0 < chs P 0 N (L i) nt then some i else pkF (fun t => chs P 0 N t nt) L m (i + 1) := rfl
    have e95 : (mS σ 71 F N b G).1 95 i = nI (L i) := by rw [mS_o (by decide) (by decide) (by decide) (by decide)]; exact h95 i (by omega)
    by_cases q : 0 < chs P 0 N (L i) nt
    · refine ⟨G1, b1, le_X10_firstReady_2 en _ _ _ _ ?_⟩
      rw [mS_22, hB.2.2.1, gd_true ⟨by omega, by rcases hp with z | z <;> subst z <;> rfl⟩, nm_eq, Nat.add_sub_cancel, xb_nt hB hP, if_neg (by rw [n_LE (by omega) (by omega)]; omega), gd_true (n_in (by omega) (by decide)), n_cl (by omega), e95, e44, bI_some, if_neg (by rw [show (0 : Int32) = nI 0 from rfl, n_LE (by omega) (by omega)]; omega), e, if_pos q]
    · obtain ⟨G2, b2, e2⟩ := ih (i + 1) b1 G1 (by omega)
      refine ⟨G2, b2, le_X10_firstReady_2 en _ _ _ _ ?_⟩
      rw [mS_22, hB.2.2.1, gd_true ⟨by omega, by rcases hp with z | z <;> subst z <;> rfl⟩, nm_eq, Nat.add_sub_cancel, xb_nt hB hP, if_neg (by rw [n_LE (by omega) (by omega)]; omega), gd_true (n_in (by omega) (by decide)), n_cl (by omega), e95, e44, bI_some, if_pos (by rw [show (0 : Int32) = nI 0 from rfl, n_LE (by omega) (by omega)]; omega), e, if_neg q, show nI i + (1 : Int32) = nI (i + 1) from n_ar]
      exact e2
theorem x_lowR (hB : XB σ 71 p P) (hP : PV P nc nl nt n) (hr : r < nt) (h95 : ∀ i, i < nt → σ.1 95 i = nI (L i)) : ∃ σ', qev en (d + 1) 200 [.ref 70, .int (nI r)] (mS σ 71 F N b G) = some (none, mS σ' 71 F N b G) ∧ (∀ i, i < nt → σ'.1 95 i = nI (lowF nt r L i)) ∧ drF σ σ' := by
  have ht4 := hP.2.2.1.2
  have hp := hB.2.1
  have e95 : (mS σ 71 F N b G).1 95 = σ.1 95 := mS_o (by decide) (by decide) (by decide) (by decide)
  let f1 : fI := va_cpy (σ.1 95) (σ.1 95) (r + 1) r (nt - 1 - r)
  have e1 : uIr (mS σ 71 F N b G) 95 f1 = mS (uIr σ 95 f1) 71 F N b G := mS_Ir (by decide) (by decide) (by decide) (by decide)
  refine ⟨uI (uIr σ 95 f1) 95 (nt - 1) (nI (L r)), le_X10_lower en _ _ _ _ ?_, fun i hi => ?_, ⟨fun c hc => (uI_ne hc).trans (uIr_ne hc), fun _ _ => rfl, rfl⟩⟩
  · have hsub : nI nt - (1 : Int32) = nI (nt - 1) := n_sr (by show 1 ≤ nt; omega)
    rw [mS_22, hB.2.2.1, gd_true ⟨by omega, by rcases hp with z | z <;> subst z <;> rfl⟩, nm_eq, Nat.add_sub_cancel, xb_nt hB hP, hsub, nm_eq, gd_true (n_in (by omega) (by decide)), nm_eq, show nI r + (1 : Int32) = nI (r + 1) from n_ar, n_sub (by omega), gd_true ⟨⟨nI_pos (by omega), nI_pos (by omega), nI_pos (by omega)⟩, by rw [n_cl (by omega), n_cl (by omega)]; omega, by rw [n_cl (by omega), n_cl (by omega)]; omega⟩, n_cl (show r + 1 < 2 ^ 31 by omega), n_cl (show r < 2 ^ 31 by omega), n_cl (show nt - 1 - r < 2 ^ 31 by omega), e95, h95 r hr, nm_eq]
    show gd (p_inB (nI (nt - 1)) 4 = true) (nm (uI (uIr (mS σ 71 F N b G) 95 f1) 95 (nI (nt - 1)).toNatClampNeg (nI (L r))) (fun s9 => some (none, s9))) = _
    rw [e1, gd_true (n_in (by omega) (by decide)), nm_eq, n_cl (by omega), mS_wo (by decide) (by decide) (by decide) (by decide)]
  · rw [uI_row, uIr_row]
    unfold lowF
    by_cases q : i = nt - 1
    · rw [q, pk_us]
      by_cases q2 : nt - 1 < r
      · omega
      · rw [if_neg q2, if_neg (by omega)]
    · rw [pk_un q]
      show (if r ≤ i ∧ i < r + (nt - 1 - r) then σ.1 95 (r + 1 + (i - r)) else σ.1 95 i) = _
      by_cases q2 : i < r
      · rw [if_neg (by omega), if_pos q2]; exact h95 i hi
      · rw [if_pos (by omega), if_neg q2, if_pos (by omega), show r + 1 + (i - r) = i + 1 by omega]; exact h95 _ (by omega)
end CHX

