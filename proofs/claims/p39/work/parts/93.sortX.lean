/-! THE CLASS'S MACHINE: whether a step is ready; sorts of ends; locks of a thread; rings; the first state. -/
def soF (N : fI) : Nat → Nat → Bool → Nat
  | 0, _, all => if all then 0 else 1
  | k + 1, t, all => if N t = 5 then 2 else soF N k (t + 1) (all && (decide (N t = 0) || decide (N t = 4)))
def soS (N : fI) (nt : Nat) : Nat := soF N nt 0 true
theorem soF_le {N : fI} : ∀ (k t : Nat) (all : Bool), soF N k t all ≤ 2 := by
  intro k
  induction k with
  | zero => intro t all; unfold soF; split <;> omega
  | succ k ih =>
    intro t all
    unfold soF
    split
    · exact Nat.le_refl _
    · exact ih _ _
def loB (N : fI) (t : Nat) : Nat → Int32
  | 0 => 0
  | l + 1 => if N (40 + l) = nI t then loB N t l ||| ((1 : Int32) <<< (nI l &&& 31)) else loB N t l
def laS (P : Nat → fI) (N : fI) (t : Nat) : Int32 := if N t = 3 ∨ (N t = 1 ∧ kd P (clp (N (4 + t))) = 5) then nI (ob P (clp (N (4 + t)))) else -1
section XG
variable {en : pN} {d m p t c k a w i n l u ch q o nc nl nt : Nat} {v x b : Int32} {σ : qS} {P : Nat → fI} {F N G R : fI}
theorem x_isReady (hB : XB σ m p P) (hP : PV P nc nl nt n) (hS : SV P w nc nl nt n N) (hw : F 8 = nI w) (hw2 : w ≤ 2) : ∃ (G' : fI) (b' : Int32) (rb : Bool), qev en (d + 6) 43 [.ref m, .int v, .int x] (mS σ m F N b G) = some (some (.int (bt rb)), mS σ m F N b' G') ∧ (rb = true ↔ ∃ t ch, v = nI t ∧ x = nI ch ∧ ch < 10 ∧ rdS P w N t ch nt) := by
  have hP' := hP
  have hS' := hS
  obtain ⟨-, -, ⟨ht0, ht4⟩, -, -, -⟩ := hP
  obtain ⟨-, -, -, -, Sq, -⟩ := hS
  have no : ∀ {X : Prop}, ¬ X → (false = true ↔ X) := fun h => ⟨fun z => (by cases z), fun z => absurd z h⟩
  by_cases hv : v < 0
  · refine ⟨G, b, false, le_X3_isReady en (d + 5) m _ _ _ _ ?_, no ?_⟩
    · rw [gd_true (xb_lm hB), if_pos hv]; rfl
    · rintro ⟨t, ch, rfl, rfl, hch, hr⟩
      exact nI_pos (by have := hr.1; omega) hv
  · obtain ⟨t, ht, rfl⟩ := nI_of hv
    have htt : ¬ nI t < 0 := hv
    by_cases htn : t < nt
    · by_cases hx : 0 ≤ x
      · obtain ⟨ch, hch, rfl⟩ := nI_of (Int32.not_lt.mpr hx)
        obtain ⟨G', b', hG⟩ := x_choices (en := en) (d := d) (F := F) (b := b) (G := G) hB hP' hS' hw hw2 htn
        have c9 := ch_le hP' hS' htn
        obtain ⟨q, hq, hq3⟩ := sv_q Sq (show t < 4 by omega)
        have key : ∀ rb : Bool, (if ch < chs P w N t nt then some (some (Value.int 1), mS σ m F N b' G') else if ¬ ch = 9 then some (some (Value.int 0), mS σ m F N b' G') else if q ≤ 0 then some (some (Value.int 0), mS σ m F N b' G') else some (some (Value.int 1), mS σ m F N b' G')) = some (some (Value.int (bt rb)), mS σ m F N b' G') → qev en (d + 6) 43 [.ref m, .int (nI t), .int (nI ch)] (mS σ m F N b G) = some (some (.int (bt rb)), mS σ m F N b' G') := by
          intro rb hh
          refine le_X3_isReady en (d + 5) m _ _ _ _ ?_
          simp (disch := omega) only [xb_lm hB, gdT, htt, if_false, gdP (xb_lp hB), xb_R hB, Nat.add_sub_cancel, nm_eq, xb_P0 hB, ht0, n_LE, if_neg, hx, if_true, hG, bI_some, n_LT, n_eq, n_al, n_in, n_cl, mS_n, hq, n_ge]
          exact hh
        have un : ∀ {X : Prop}, (∀ t' ch', nI t = nI t' → nI ch = nI ch' → ch' < 10 → rdS P w N t' ch' nt → (t' = t → ch' = ch → X) → X) := fun t' ch' e1 e2 h3 h4 k => by
          have := h4.1
          exact k ((nI_eq (by omega) ht).mp e1.symm) ((nI_eq (by omega) hch).mp e2.symm)
        by_cases h1 : ch < chs P w N t nt
        · refine ⟨G', b', true, key true (by rw [if_pos h1]; rfl), ⟨fun _ => ⟨t, ch, rfl, rfl, by omega, htn, Or.inl h1⟩, fun _ => rfl⟩⟩
        · by_cases h9 : ch = 9
          · by_cases q0 : q = 0
            · refine ⟨G', b', false, key false (by rw [if_neg h1, if_neg (not_not_intro h9), if_pos (by omega)]; rfl), no ?_⟩
              rintro ⟨t', ch', e1, e2, h3, h4⟩
              refine un t' ch' e1 e2 h3 h4 fun z1 z2 => ?_
              subst z1 z2
              rcases h4.2 with h5 | ⟨-, h5⟩
              · exact h1 h5
              · rw [hq, q0] at h5; exact h5 rfl
            · refine ⟨G', b', true, key true (by rw [if_neg h1, if_neg (not_not_intro h9), if_neg (by omega)]; rfl), ⟨fun _ => ⟨t, ch, rfl, rfl, by omega, htn, Or.inr ⟨h9, by rw [hq, n_eq (by decide) (by omega)]; exact q0⟩⟩, fun _ => rfl⟩⟩
          · refine ⟨G', b', false, key false (by rw [if_neg h1, if_pos h9]; rfl), no ?_⟩
            rintro ⟨t', ch', e1, e2, h3, h4⟩
            refine un t' ch' e1 e2 h3 h4 fun z1 z2 => ?_
            subst z1 z2
            rcases h4.2 with h5 | ⟨h5, -⟩
            · exact h1 h5
            · exact h9 h5
      · refine ⟨G, b, false, le_X3_isReady en (d + 5) m _ _ _ _ ?_, no ?_⟩
        · simp (disch := omega) only [xb_lm hB, gdT, htt, if_false, gdP (xb_lp hB), xb_R hB, Nat.add_sub_cancel, nm_eq, xb_P0 hB, ht0, n_LE, if_neg, hx]
          rfl
        · rintro ⟨t', ch', e1, e2, h3, h4⟩
          exact hx (by rw [e2]; exact nI_pos' (by omega))
    · refine ⟨G, b, false, le_X3_isReady en (d + 5) m _ _ _ _ ?_, no ?_⟩
      · simp (disch := omega) only [xb_lm hB, gdT, htt, if_false, gdP (xb_lp hB), xb_R hB, Nat.add_sub_cancel, nm_eq, xb_P0 hB, ht0, n_LE, if_pos]
        rfl
      · rintro ⟨t', ch', e1, e2, h3, h4, h5⟩
        obtain rfl := (nI_eq ht (by omega)).mp e1
        exact htn h4
theorem x_sort (hB : XB σ m p P) (hnt : P 0 11 = nI nt) (h4 : nt ≤ 4) : qev en (d + 1) 49 [.ref m] (mS σ m F N b G) = some (some (.int (nI (soS N nt))), mS σ m F N b G) := by
  refine le_X3_sort en d m _ _ ?_
  rw [gd_true (xb_lm hB)]
  have go : ∀ (k t : Nat) (all : Bool), t + k = nt → L_X3_sort_4 en d m (bt all) (nI t) (mS σ m F N b G) = some (some (.int (nI (soF N k t all))), mS σ m F N b G) := by
    intro k
    induction k with
    | zero =>
      intro t all hk
      refine le_X3_sort_4 en d m _ _ _ _ ?_
      simp (disch := omega) only [xb_lm hB, gdT, gdP (xb_lp hB), xb_R hB, Nat.add_sub_cancel, nm_eq, xb_P0 hB, hnt, n_LE, if_pos, bt_0]
      cases all <;> rfl
    | succ k ih =>
      intro t all hk
      refine le_X3_sort_4 en d m _ _ _ _ ?_
      simp (disch := omega) only [xb_lm hB, gdT, gdP (xb_lp hB), xb_R hB, Nat.add_sub_cancel, nm_eq, xb_P0 hB, hnt, n_LE, if_neg, bt_0, n_al, n_in, n_cl, mS_n, Nat.zero_add, n_ar]
      unfold soF
      by_cases h5 : N t = 5
      · rw [if_neg (not_not_intro h5), if_pos h5]; rfl
      · rw [if_pos h5, if_neg h5]
        have ihf : L_X3_sort_4 en d m 0 (nI (t + 1)) (mS σ m F N b G) = _ := ih (t + 1) false (by omega)
        have iht : L_X3_sort_4 en d m 1 (nI (t + 1)) (mS σ m F N b G) = _ := ih (t + 1) true (by omega)
        cases all
        · rw [if_pos rfl]; exact ihf
        · rw [if_neg (by decide)]
          by_cases h0 : N t = 0
          · rw [if_pos h0]; simpa [h0] using iht
          · rw [if_neg h0]
            by_cases h4 : N t = 4
            · rw [if_neg (not_not_intro h4)]; simpa [h0, h4] using iht
            · rw [if_pos h4]; simpa [h0, h4] using ihf
  exact go nt 0 true (by omega)
theorem x_loB (hB : XB σ m p P) (hnl : P 0 10 = nI nl) (h4 : nl ≤ 4) : qev en (d + 1) 50 [.ref m, .int (nI t)] (mS σ m F N b G) = some (some (.int (loB N t nl)), mS σ m F N b G) := by
  refine le_X3_locksOf en d m _ _ _ ?_
  rw [gd_true (xb_lm hB)]
  have go : ∀ (k l : Nat), l + k = nl → L_X3_locksOf_4 en d m (nI t) (loB N t l) (nI l) (mS σ m F N b G) = some (some (.int (loB N t nl)), mS σ m F N b G) := by
    intro k
    induction k with
    | zero =>
      intro l hk
      obtain rfl : l = nl := by omega
      refine le_X3_locksOf_4 en d m _ _ _ _ _ ?_
      simp (disch := omega) only [xb_lm hB, gdT, gdP (xb_lp hB), xb_R hB, Nat.add_sub_cancel, nm_eq, xb_P0 hB, hnl, n_LE, if_pos]
    | succ k ih =>
      intro l hk
      refine le_X3_locksOf_4 en d m _ _ _ _ _ ?_
      simp (disch := omega) only [xb_lm hB, gdT, gdP (xb_lp hB), xb_R hB, Nat.add_sub_cancel, nm_eq, xb_P0 hB, hnl, n_LE, if_neg, n_al, n_in, n_cl, mS_n, n_ar]
      have h1 := ih (l + 1) (by omega)
      rw [show loB N t (l + 1) = if N (40 + l) = nI t then loB N t l ||| ((1 : Int32) <<< (nI l &&& 31)) else loB N t l from rfl] at h1
      by_cases h : N (40 + l) = nI t
      · rw [if_pos h] at h1; rw [if_neg (not_not_intro h)]; exact h1
      · rw [if_neg h] at h1; rw [if_pos h]; exact h1
  exact go nl 0 (by omega)
theorem x_lA (hB : XB σ m p P) (hP : PV P nc nl nt n) (hS : SVt P nt n N) (ht : t < nt) : qev en (d + 1) 51 [.ref m, .int (nI t)] (mS σ m F N b G) = some (some (.int (laS P N t)), mS σ m F N b G) := by
  obtain ⟨-, -, ⟨ht0, ht4⟩, ⟨hn0, hn100⟩, hln, -⟩ := hP
  refine le_X3_lockAhead en d m _ _ _ ?_
  have no : ∀ x : Int32, L_X3_lockAhead_57 en d m x 0 (mS σ m F N b G) = some (some (.int (-1)), mS σ m F N b G) := by
    intro x
    refine le_X3_lockAhead_57 en d m _ _ _ _ ?_
    rw [gd_true (xb_lm hB), if_pos rfl]
  have yes : ∀ i : Nat, i < n → P 9 i = nI (ob P i) → L_X3_lockAhead_57 en d m (nI i) 1 (mS σ m F N b G) = some (some (.int (nI (ob P i))), mS σ m F N b G) := by
    intro i hi ho
    refine le_X3_lockAhead_57 en d m _ _ _ _ ?_
    have n1 : ¬ ((1 : Int32) = 0) := by decide
    simp (disch := omega) only [xb_lm hB, gdT, n1, if_false, gdP (xb_lp hB), xb_R hB, Nat.add_sub_cancel, nm_eq, n_in, n_cl, xb_P hB (show 9 < 25 by decide), ho]
  unfold laS
  have e7 : ∀ (M : fI) (b : Int32) (G : fI), (mS σ m M N b G).1 (p + 7) = P 7 := fun M b G => xb_P hB (by decide)
  rcases hS.1 t ht with ⟨z, h4, -, -⟩ | ⟨s1, ⟨i, hi, h4, h8⟩, -, -⟩ | ⟨z, ⟨i, hi, h4, h8, hk7⟩, -, -⟩ | ⟨z, h4, -, -⟩
  · simp (disch := omega) only [xb_lm hB, gdT, n_al, n_in, n_cl, mS_n, nm_eq, h4, w_10, if_true, no]
    rw [if_neg]
    rintro (y | ⟨y, -⟩) <;> rcases z with z | z <;> rw [z] at y <;> exact absurd y (by decide)
  · have e0 : ¬ nI i < 0 := nI_pos (by omega)
    obtain ⟨⟨hk, hk19⟩, -, -, ho2, -⟩ := hln i hi
    have n13 : ¬ ((1 : Int32) = 3) := by decide
    simp (disch := omega) only [xb_lm hB, gdT, n_al, n_in, n_cl, mS_n, nm_eq, h4, e0, if_false, Nat.zero_add, s1, n13, not_true, gdP (xb_lp hB), xb_R hB, Nat.add_sub_cancel, e7, hk, n_eq, false_or, true_and, n_clp, no]
    by_cases k5 : kd P i = 5
    · rw [if_neg (not_not_intro k5), if_pos k5]
      exact yes i hi (ho2 (by omega) (by omega)).1
    · rw [if_pos k5, if_neg k5]
  · have e0 : ¬ nI i < 0 := nI_pos (by omega)
    obtain ⟨-, -, -, ho2, -⟩ := hln i hi
    rcases z with s2 | s3
    · have n23 : ¬ ((2 : Int32) = 3) := by decide
      have n21 : ¬ ((2 : Int32) = 1) := by decide
      simp (disch := omega) only [xb_lm hB, gdT, n_al, n_in, n_cl, mS_n, nm_eq, h4, e0, if_false, Nat.zero_add, s2, n23, n21, not_false_eq_true, if_true, no, false_and, or_self]
    · have n33 : ((3 : Int32) = 3) = True := eq_self _
      simp (disch := omega) only [xb_lm hB, gdT, n_al, n_in, n_cl, mS_n, nm_eq, h4, e0, if_false, Nat.zero_add, s3, n33, if_true, true_or, n_clp]
      exact yes i hi (ho2 (by omega) (by omega)).1
  · simp (disch := omega) only [xb_lm hB, gdT, n_al, n_in, n_cl, mS_n, nm_eq, h4, w_10, if_true, no]
    rw [if_neg]
    rintro (y | ⟨y, -⟩) <;> rw [z] at y <;> exact absurd y (by decide)
end XG

