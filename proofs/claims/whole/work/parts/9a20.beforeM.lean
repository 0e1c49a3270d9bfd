/-! THE RUN: which steps are before which, the model's side. T: its table. -/
def bS (s : qS) (T : fI) : qS := (fun a k => if a = 200 then T k else s.1 a k, s.2)
def tb (T : fI) (k j : Nat) : Bool := decide (¬ T (200 * k + j) = 0)
section BS
variable {s : qS} {T : fI} {g : Nat → fI} {V : fI} {k : Nat} {v : Int32}
theorem bS_g : (bS s T).1 200 = T := by
  funext x
  show (if (200 : Nat) = 200 then T x else s.1 200 x) = T x
  exact if_pos rfl
theorem bS_o {a : Nat} (h : a ≠ 200) : (bS s T).1 a = s.1 a := by
  funext x
  exact if_neg h
theorem bS_w : uI (bS s T) 200 k v = bS s (upd T k v) := by
  refine Prod.ext (funext fun a => funext fun x => ?_) rfl
  show (if a = 200 ∧ x = k then v else if a = 200 then T x else s.1 a x) = (if a = 200 then (if x = k then v else T x) else s.1 a x)
  by_cases q : a = 200
  · by_cases z : x = k
    · rw [if_pos ⟨q, z⟩, if_pos q, if_pos z]
    · rw [if_neg (fun w => z w.2), if_pos q, if_pos q, if_neg z]
  · rw [if_neg (fun w => q w.1), if_neg q, if_neg q]
theorem bS_RM (h : RM s g V) : RM (bS s T) g V := by
  refine ⟨fun k hk => ?_, ?_⟩
  · rw [bS_o (by omega)]; exact h.1 k hk
  · rw [bS_o (by decide)]; exact h.2
theorem tb_n {k' j j' : Nat} (hj : j < 200) (hj' : j' < 200) (h : ¬ (k' = k ∧ j' = j)) : tb (upd T (200 * k + j) v) k' j' = tb T k' j' := by
  show decide (¬ (if 200 * k' + j' = 200 * k + j then v else T (200 * k' + j')) = 0) = _
  rw [if_neg (by omega)]
  rfl
theorem tb_s {j : Nat} : tb (upd T (200 * k + j) v) k j = decide (¬ v = 0) := by
  show decide (¬ (if 200 * k + j = 200 * k + j then v else T (200 * k + j)) = 0) = _
  rw [if_pos rfl]
theorem nar0 : vp_nar .boolean (0 : Int32) = 0 := by decide
theorem nar1 : vp_nar .boolean (1 : Int32) = 1 := by decide
theorem n_200 {a b : Nat} : ((200 : Int32) * nI a) + nI b = nI (200 * a + b) := by
  rw [n_ml]
  exact (Int32.ofNat_add _ _).symm
end BS
section LB
variable {en : pN} {d : Nat} {s : qS} {g : Nat → fI} {V : fI} {n : Nat} {L : Nat → Nat → Bool}
abbrev BM (T : fI) (L : Nat → Nat → Bool) (n m : Nat) : Prop := ∀ j, j < m → ∀ k, k < n → tb T k j = bfo L j k
theorem l_71 {i j : Nat} (hi : i < j) (hj : j < n) (hn : n ≤ 200) {T0 : fI} (hB : BM T0 L n j) (C : ∀ T', (∀ k, k < n → tb T' k j = (tb T0 k j || bfo L i k)) → BM T' L n j → ∃ T'', L_X12_layBefore_43 en d (nI j) (nI i + (-1 : Int32)) (bS s T') = some (none, bS s T'') ∧ BM T'' L n n) : ∀ (m k : Nat) (T : fI), k + m = i → (∀ k', k' < n → tb T k' j = (tb T0 k' j || (decide (k' < k) && bfo L i k'))) → BM T L n j → ∃ T'', L_X12_layBefore_71 en d (nI j) (nI i) (nI k) (bS s T) = some (none, bS s T'') ∧ BM T'' L n n := by
  intro m
  induction m with
  | zero =>
    intro k T hk h1 h2
    obtain ⟨T'', e, b⟩ := C T (fun k' hk' => by
      rw [h1 k' hk']
      by_cases q : k' < k
      · rw [decide_eq_true q, Bool.true_and]
      · rw [decide_eq_false q, Bool.false_and, show bfo L i k' = false from Bool.eq_false_iff.mpr (fun z => q (by have := bfo_lt z; omega))]) h2
    refine ⟨T'', le_X12_layBefore_71 en d _ _ _ _ _ ?_, b⟩
    rw [if_pos (by rw [n_LE (by omega) (by omega)]; omega)]
    exact e
  | succ m ih =>
    intro k T hk h1 h2
    have nx : ∀ v : Int32, (¬ v = 0 ↔ (tb T0 k j || bfo L i k) = true) → ∃ T'', L_X12_layBefore_71 en d (nI j) (nI i) (nI (k + 1)) (bS s (upd T (200 * k + j) v)) = some (none, bS s T'') ∧ BM T'' L n n := by
      intro v hv
      refine ih (k + 1) _ (by omega) (fun k' hk' => ?_) (fun j' hj' k' hk' => ?_)
      · by_cases q : k' = k
        · subst q
          rw [tb_s, decide_eq_true (show k' < k' + 1 by omega), Bool.true_and]
          exact Bool.eq_iff_iff.mpr (by rw [decide_eq_true_iff]; exact hv)
        · rw [tb_n (by omega) (by omega) (fun z => q z.1), h1 k' hk']
          congr 2
          exact decide_eq_decide.mpr (by omega)
      · rw [tb_n (by omega) (by omega) (by omega)]
        exact h2 j' hj' k' hk'
    have r122 : ∀ (v : Int32) (T'' : fI), vp_nar .boolean v = v → L_X12_layBefore_71 en d (nI j) (nI i) (nI (k + 1)) (bS s (upd T (200 * k + j) v)) = some (none, bS s T'') → L_X12_layBefore_122 en d (nI j) (nI i) (nI k) (nI (200 * k + j)) v (bS s T) = some (none, bS s T'') := by
      intro v T'' hv h
      refine le_X12_layBefore_122 en d _ _ _ _ _ _ _ ?_
      rw [gd_true (n_in (by omega) (by decide)), hv, bS_w, n_cl (by omega), n_ar]
      exact h
    have ek : tb T k j = tb T0 k j := by
      rw [h1 k (by omega), decide_eq_false (by omega), Bool.false_and, Bool.or_false]
    have ei : tb T k i = bfo L i k := h2 i hi k (by omega)
    have g1 : (T (200 * k + j) = 0) = (tb T0 k j = false) := by
      rw [← ek]
      exact propext ⟨fun z => decide_eq_false (fun w => w z), fun z => Decidable.not_not.mp (of_decide_eq_false z)⟩
    have g2 : (T (200 * k + i) = 0) = (bfo L i k = false) := by
      rw [← ei]
      exact propext ⟨fun z => decide_eq_false (fun w => w z), fun z => Decidable.not_not.mp (of_decide_eq_false z)⟩
    have top : ∀ (v : Int32) (T'' : fI), (if ¬ T (200 * k + j) = 0 then L_X12_layBefore_122 en d (nI j) (nI i) (nI k) (nI (200 * k + j)) 1 (bS s T) else if T (200 * k + i) = 0 then L_X12_layBefore_122 en d (nI j) (nI i) (nI k) (nI (200 * k + j)) 0 (bS s T) else L_X12_layBefore_122 en d (nI j) (nI i) (nI k) (nI (200 * k + j)) 1 (bS s T)) = some (none, bS s T'') → L_X12_layBefore_71 en d (nI j) (nI i) (nI k) (bS s T) = some (none, bS s T'') := by
      intro v T'' h
      refine le_X12_layBefore_71 en d _ _ _ _ _ ?_
      rw [if_neg (by rw [n_LE (by omega) (by omega)]; omega), n_200, n_200, gd_true (n_in (by omega) (by decide)), gd_true (n_in (by omega) (by decide)), bS_g, n_cl (by omega), n_cl (by omega)]
      exact h
    by_cases q1 : T (200 * k + j) = 0
    · by_cases q2 : T (200 * k + i) = 0
      · obtain ⟨T'', e, b⟩ := nx 0 (by rw [g1] at q1; rw [g2] at q2; rw [q1, q2]; decide)
        refine ⟨T'', top 0 T'' ?_, b⟩
        rw [if_neg (fun w => w q1), if_pos q2]
        exact r122 0 T'' nar0 e
      · obtain ⟨T'', e, b⟩ := nx 1 (by rw [g2, Bool.not_eq_false] at q2; rw [q2, Bool.or_true]; decide)
        refine ⟨T'', top 0 T'' ?_, b⟩
        rw [if_neg (fun w => w q1), if_neg q2]
        exact r122 1 T'' nar1 e
    · obtain ⟨T'', e, b⟩ := nx 1 (by rw [g1, Bool.not_eq_false] at q1; rw [q1, Bool.true_or]; decide)
      refine ⟨T'', top 0 T'' ?_, b⟩
      rw [if_pos q1]
      exact r122 1 T'' nar1 e
def qB (L : Nat → Nat → Bool) (j m k : Nat) : Bool := (List.range' m (j - m)).any (fun i => L i j && (k == i || bfo L i k))
theorem qB_s {j m k : Nat} (h : m < j) : qB L j m k = ((L m j && (k == m || bfo L m k)) || qB L j (m + 1) k) := by
  unfold qB
  rw [show j - m = (j - (m + 1)) + 1 by omega]
  rfl
theorem qB_j {j k : Nat} : qB L j j k = false := by
  unfold qB
  rw [Nat.sub_self]
  rfl
theorem qB_0 {j k : Nat} : qB L j 0 k = bfo L j k := by
  rw [bfo_eq, List.range_eq_range']
  rfl
theorem l_43 {j : Nat} (hR : RM s g V) (hnm : ∀ i, i < n → nmM g i) (hL : ∀ i j, i < j → j < n → L i j = decide (ldM g V i j)) (hj : j < n) (hn : n ≤ 200) (C : ∀ T', BM T' L n (j + 1) → ∃ T'', L_X12_layBefore_2 en (d + 2) (nI (j + 1)) (bS s T') = some (none, bS s T'') ∧ BM T'' L n n) : ∀ (m : Nat) (T : fI), m ≤ j → (∀ k, k < n → tb T k j = qB L j m k) → BM T L n j → ∃ T'', L_X12_layBefore_43 en (d + 2) (nI j) (nI m + (-1 : Int32)) (bS s T) = some (none, bS s T'') ∧ BM T'' L n n := by
  intro m
  induction m with
  | zero =>
    intro T hm h1 h2
    obtain ⟨T'', e, b⟩ := C T (fun j' hj' k hk => by
      by_cases q : j' = j
      · subst q
        rw [h1 k hk, qB_0]
      · exact h2 j' (by omega) k hk)
    refine ⟨T'', le_X12_layBefore_43 en (d + 2) _ _ _ _ ?_, b⟩
    rw [if_pos (by decide), n_ar]
    exact e
  | succ m ih =>
    intro T hm h1 h2
    by_cases q : ldM g V m j
    · obtain ⟨T'', e, b⟩ := l_71 (en := en) (d := d + 2) (s := s) (i := m) (j := j) (n := n) (L := L) (T0 := upd T (200 * m + j) 1) (by omega) hj hn (fun j' hj' k hk => by
        rw [tb_n (by omega) (by omega) (by omega)]
        exact h2 j' hj' k hk) (fun T' a1 a2 => ih T' (by omega) (fun k hk => by
        rw [a1 k hk, qB_s (by omega), hL m j (by omega) hj, decide_eq_true q, Bool.true_and]
        by_cases z : k = m
        · subst z
          rw [tb_s, decide_eq_true (by decide), beq_self_eq_true]
          rfl
        · rw [tb_n (by omega) (by omega) (fun w => z w.1), h1 k hk, beq_eq_false_iff_ne.mpr z, Bool.false_or, Bool.or_comm]) a2) m 0 (upd T (200 * m + j) 1) (by omega) (fun k hk => by
        rw [decide_eq_false (by omega), Bool.false_and, Bool.or_false]) (fun j' hj' k hk => by
        rw [tb_n (by omega) (by omega) (by omega)]
        exact h2 j' hj' k hk)
      refine ⟨T'', le_X12_layBefore_43 en (d + 2) _ _ _ _ ?_, b⟩
      rw [n_cm1, if_neg (nI_pos (by omega)), m_direct (bS_RM hR) (hnm j hj) (hnm m (by omega)) (by omega) (by omega), bI_some]
      show (if bt (decide (ldM g V m j)) = 0 then _ else _) = _
      rw [ibd, if_pos q, n_200, gd_true (n_in (by omega) (by decide)), nar1, n_cl (by omega), bS_w]
      exact e
    · obtain ⟨T'', e, b⟩ := ih T (by omega) (fun k hk => by
        rw [h1 k hk, qB_s (m := m) (by omega), hL m j (by omega) hj, decide_eq_false q, Bool.false_and, Bool.false_or]) h2
      refine ⟨T'', le_X12_layBefore_43 en (d + 2) _ _ _ _ ?_, b⟩
      rw [n_cm1, if_neg (nI_pos (by omega)), m_direct (bS_RM hR) (hnm j hj) (hnm m (by omega)) (by omega) (by omega), bI_some]
      show (if bt (decide (ldM g V m j)) = 0 then _ else _) = _
      rw [ibd, if_neg q]
      exact e
theorem l_12 {j : Nat} (hR : RM s g V) (hl : s.1 151 78 = nI n) (hnm : ∀ i, i < n → nmM g i) (hL : ∀ i j, i < j → j < n → L i j = decide (ldM g V i j)) (hj : j < n) (hn : n ≤ 200) (C : ∀ T', BM T' L n (j + 1) → ∃ T'', L_X12_layBefore_2 en (d + 2) (nI (j + 1)) (bS s T') = some (none, bS s T'') ∧ BM T'' L n n) : ∀ (m i : Nat) (T : fI), i + m = n → (∀ k, k < i → tb T k j = false) → BM T L n j → ∃ T'', L_X12_layBefore_12 en (d + 2) (nI j) (nI i) (bS s T) = some (none, bS s T'') ∧ BM T'' L n n := by
  intro m
  induction m with
  | zero =>
    intro i T hi h1 h2
    obtain ⟨T'', e, b⟩ := l_43 (en := en) (d := d) hR hnm hL hj hn C j T (Nat.le_refl _) (fun k hk => by rw [qB_j]; exact h1 k (by omega)) h2
    refine ⟨T'', le_X12_layBefore_12 en (d + 2) _ _ _ _ ?_, b⟩
    rw [bS_o (by decide), hl, if_pos (by rw [n_LE (by omega) (by omega)]; omega), Int32.sub_eq_add_neg]
    exact e
  | succ m ih =>
    intro i T hi h1 h2
    obtain ⟨T'', e, b⟩ := ih (i + 1) (upd T (200 * i + j) 0) (by omega) (fun k hk => by
      by_cases z : k = i
      · subst z
        rw [tb_s]
        rfl
      · rw [tb_n (by omega) (by omega) (fun w => z w.1)]
        exact h1 k (by omega)) (fun j' hj' k hk => by
      rw [tb_n (by omega) (by omega) (by omega)]
      exact h2 j' hj' k hk)
    refine ⟨T'', le_X12_layBefore_12 en (d + 2) _ _ _ _ ?_, b⟩
    rw [bS_o (by decide), hl, if_neg (by rw [n_LE (by omega) (by omega)]; omega), n_200, gd_true (n_in (by omega) (by decide)), nar0, n_cl (by omega), bS_w, n_ar]
    exact e
theorem m_layBefore (hR : RM s g V) (hl : s.1 151 78 = nI n) (hnm : ∀ i, i < n → nmM g i) (hL : ∀ i j, i < j → j < n → L i j = decide (ldM g V i j)) (hn : n ≤ 200) : ∃ T', qev en (d + 3) 345 [.ref 151] s = some (none, bS s T') ∧ BM T' L n n := by
  have all : ∀ (m j : Nat) (T : fI), j + m = n → BM T L n j → ∃ T'', L_X12_layBefore_2 en (d + 2) (nI j) (bS s T) = some (none, bS s T'') ∧ BM T'' L n n := by
    intro m
    induction m with
    | zero =>
      intro j T hj hB
      have : j = n := by omega
      subst this
      refine ⟨T, le_X12_layBefore_2 en (d + 2) _ _ _ ?_, hB⟩
      rw [bS_o (by decide), hl, if_pos (by rw [n_LE (by omega) (by omega)]; exact Nat.le_refl _)]
    | succ m ih =>
      intro j T hj hB
      obtain ⟨T'', e, b⟩ := l_12 (en := en) (d := d) hR hl hnm hL (by omega) hn (fun T' hT' => ih (j + 1) T' (by omega) hT') n 0 T (by omega) (fun k hk => by omega) hB
      refine ⟨T'', le_X12_layBefore_2 en (d + 2) _ _ _ ?_, b⟩
      rw [bS_o (by decide), hl, if_neg (by rw [n_LE (by omega) (by omega)]; omega)]
      exact e
  obtain ⟨T', e, b⟩ := all n 0 (s.1 200) (by omega) (fun j hj => by omega)
  refine ⟨T', le_X12_layBefore en (d + 2) _ _ ?_, b⟩
  have id0 : bS s (s.1 200) = s := by
    refine Prod.ext (funext fun a => funext fun x => ?_) rfl
    show (if a = 200 then s.1 200 x else s.1 a x) = s.1 a x
    by_cases q : a = 200
    · rw [if_pos q, q]
    · rw [if_neg q]
  rw [id0] at e
  exact e
end LB
