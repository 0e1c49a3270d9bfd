/-! THE RUN: before and the races, the model's side. -/
section MB2
variable {en : pN} {d : Nat} {s : qS} {g : Nat → fI} {V : fI} {n : Nat} {L : Nat → Nat → Bool}
theorem m_before {a b : Int32} (hR : RM s g V) (hl : s.1 151 78 = nI n) (hnm : ∀ i, i < n → nmM g i) (hL : ∀ i j, i < j → j < n → L i j = decide (ldM g V i j)) (hn : n ≤ 200) (hr : ¬ s.1 151 74 = 0) : ∃ (r : Int32) (T : fI), qev en (d + 4) 346 [.ref 151, .int a, .int b] s = some (some (.int r), bS s T) ∧ ((a < 0 ∨ nI n ≤ a ∨ b < 0 ∨ nI n ≤ b) → r = -1) ∧ (∀ i j, a = nI i → b = nI j → i < n → j < n → r = bt (bfo L j i)) := by
  have id0 : bS s (s.1 200) = s := by
    refine Prod.ext (funext fun a => funext fun x => ?_) rfl
    show (if a = 200 then s.1 200 x else s.1 a x) = s.1 a x
    by_cases q : a = 200
    · rw [if_pos q, q]
    · rw [if_neg q]
  have out : ∀ {X : Prop}, X → (X → (-1 : Int32) = -1) := fun _ _ => rfl
  have start : ∀ (r : Int32) (T : fI), ((if a < 0 then some (some (Value.int (-1 : Int32)), s) else if nI n ≤ a then some (some (Value.int (-1 : Int32)), s) else if b < 0 then some (some (Value.int (-1 : Int32)), s) else if b < nI n then bV (qev en (d + 3) 345 [.ref 151] s) (fun s7 => if b ≤ a then some (some (Value.int (0 : Int32)), s7) else gd (p_inB (((200 : Int32) * a) + b) 40000 = true) (if (s7.1 200 (((200 : Int32) * a) + b).toNatClampNeg) = (0 : Int32) then some (some (Value.int (0 : Int32)), s7) else some (some (Value.int (1 : Int32)), s7))) else some (some (Value.int (-1 : Int32)), s)) : Option qR) = some (some (Value.int r), bS s T) → qev en (d + 4) 346 [.ref 151, .int a, .int b] s = some (some (Value.int r), bS s T) := by
    intro r T h
    refine le_X12_before en (d + 3) _ _ _ _ ?_
    rw [if_neg hr, hl]
    exact h
  by_cases a0 : a < 0
  · refine ⟨-1, s.1 200, start _ _ ?_, fun _ => rfl, fun i j ha hb hi hj => ?_⟩
    · rw [if_pos a0, id0]
    · rw [ha] at a0; exact absurd a0 (nI_pos (by omega))
  by_cases a1 : nI n ≤ a
  · refine ⟨-1, s.1 200, start _ _ ?_, fun _ => rfl, fun i j ha hb hi hj => ?_⟩
    · rw [if_neg a0, if_pos a1, id0]
    · rw [ha, n_LE (by omega) (by omega)] at a1; omega
  by_cases b0 : b < 0
  · refine ⟨-1, s.1 200, start _ _ ?_, fun _ => rfl, fun i j ha hb hi hj => ?_⟩
    · rw [if_neg a0, if_neg a1, if_pos b0, id0]
    · rw [hb] at b0; exact absurd b0 (nI_pos (by omega))
  by_cases b1 : b < nI n
  · obtain ⟨T, e, hT⟩ := m_layBefore (en := en) (d := d) hR hl hnm hL hn
    obtain ⟨i, hi, rfl⟩ := nI_of a0
    obtain ⟨j, hj, rfl⟩ := nI_of b0
    have hin : i < n := by rw [n_LE (by omega) (by omega)] at a1; omega
    have hjn : j < n := by rw [n_LT (by omega) (by omega)] at b1; exact b1
    refine ⟨bt (bfo L j i), T, start _ _ ?_, fun z => ?_, fun i' j' ha hb hi' hj' => ?_⟩
    · rw [if_neg a0, if_neg a1, if_neg b0, if_pos b1, e, bV_some]
      show (if nI j ≤ nI i then _ else _) = _
      by_cases q : j ≤ i
      · have : bfo L j i = false := Bool.eq_false_iff.mpr (fun z => by have := bfo_lt z; omega)
        rw [if_pos (by rw [n_LE (by omega) (by omega)]; exact q), this]; rfl
      · rw [if_neg (by rw [n_LE (by omega) (by omega)]; exact q), n_200, gd_true (n_in (by omega) (by decide)), bS_g, n_cl (by omega)]
        have e2 := hT j hjn i hin
        by_cases z : T (200 * i + j) = 0
        · rw [if_pos z, ← e2, show tb T i j = false from decide_eq_false (fun w => w z)]; rfl
        · rw [if_neg z, ← e2, show tb T i j = true from decide_eq_true z]; rfl
    · exfalso
      rcases z with z | z | z | z
      · exact a0 z
      · exact a1 z
      · exact b0 z
      · rw [n_LE (by omega) (by omega)] at z; omega
    · rw [(nI_eq (by omega) (by omega)).mp ha, (nI_eq (by omega) (by omega)).mp hb]
  · refine ⟨-1, s.1 200, start _ _ ?_, fun _ => rfl, fun i j ha hb hi hj => ?_⟩
    · rw [if_neg a0, if_neg a1, if_neg b0, if_neg b1, id0]
    · rw [hb, n_LT (by omega) (by omega)] at b1; exact absurd hj b1
abbrev rcM (L : Nat → Nat → Bool) (g : Nat → fI) (V : fI) (i j : Nat) : Prop := (rgM (g 3 i) (g 3 j) ∧ ¬ g 0 i = g 0 j ∧ g 4 i = g 4 j ∧ bfo L j i = false) ∧ V (clp (g 4 i)) = 0
theorem m_runRace {k x : Int32} {R : Nat → Nat → Bool} (hRR : ∀ i j, i < j → j < n → (R i j = true ↔ rcM L g V i j)) (hR : RM s g V) (hl : s.1 151 78 = nI n) (hnm : ∀ i, i < n → nmM g i) (hin : ∀ i, i < n → toM (g 3 i) → p_inB (g 4 i) 8 = true) (hL : ∀ i j, i < j → j < n → L i j = decide (ldM g V i j)) (hn : n ≤ 200) (hr : ¬ s.1 151 74 = 0) (hk : k = -1 ∨ 0 ≤ k) (hx : x = 0 ∨ x = 1) : ∃ T, qev en (d + 4) 348 [.ref 151, .int k, .int x] s = some (some (.int (rcF R k x (rcA 0 n) 0)), bS s T) := by
  obtain ⟨T, e, hT⟩ := m_layBefore (en := en) (d := d) hR hl hnm hL hn
  refine ⟨T, ?_⟩
  have hl' : (bS s T).1 151 78 = nI n := by rw [bS_o (by decide)]; exact hl
  have hR' : RM (bS s T) g V := bS_RM hR
  have row : ∀ (m i j c r : Nat), i + m = j → j + r + 1 = n → j < n → c + m < 2 ^ 20 → i < 2 ^ 20 → (∀ c', c' ≤ c + m → L_X12_runRace_32 en (d + 3) k x (nI c') (nI j + (1 : Int32)) (bS s T) = some (some (.int (rcF R k x (rcA (j + 1) r) c')), bS s T)) → L_X12_runRace_44 en (d + 3) k x (nI c) (nI j) (nI i) (bS s T) = some (some (.int (rcF R k x (rcR j i m ++ rcA (j + 1) r) c)), bS s T) := by
    intro m
    induction m with
    | zero =>
      intro i j c r hi hj hjl hc hi2 hN
      refine le_X12_runRace_44 en (d + 3) _ _ _ _ _ _ _ ?_
      rw [if_pos (by rw [n_LE (by omega) (by omega)]; omega)]
      exact hN c (Nat.le_refl _)
    | succ m ih =>
      intro i j c r hi hj hjl hc hi2 hN
      have nx := ih (i + 1) j c r (by omega) hj hjl (by omega) (by omega) (fun c' hc' => hN c' (by omega))
      have no : ¬ rcM L g V i j → L_X12_runRace_44 en (d + 3) k x (nI c) (nI j) (nI (i + 1)) (bS s T) = some (some (.int (rcF R k x ((i, j) :: rcR j (i + 1) m ++ rcA (j + 1) r) c)), bS s T) := by
        intro z
        rw [nx]
        congr 4
        exact (if_neg (fun w => z ((hRR i j (by omega) hjl).mp w))).symm
      have n0 : ¬ rcM L g V i j → L_X12_runRace_127 en (d + 3) k x (nI c) (nI j) (nI i) 0 (bS s T) = some (some (.int (rcF R k x ((i, j) :: rcR j (i + 1) m ++ rcA (j + 1) r) c)), bS s T) := by
        intro z
        refine le_X12_runRace_127 en (d + 3) _ _ _ _ _ _ _ _ ?_
        rw [if_pos rfl, n_ar]
        exact no z
      rw [rcR_s]
      refine le_X12_runRace_44 en (d + 3) _ _ _ _ _ _ _ ?_
      rw [if_neg (by rw [n_LE (by omega) (by omega)]; omega), gd_true (n_in (by omega) (by decide)), gd_true (n_in (by omega) (by decide)), rm_3 hR', n_cl (by omega), n_cl (by omega), m_racing, bI_some]
      show (if bt (decide (rgM (g 3 i) (g 3 j))) = 0 then _ else _) = _
      rw [ibd]
      by_cases q1 : rgM (g 3 i) (g 3 j)
      · rw [if_pos q1, rm_0 hR']
        by_cases q2 : g 0 i = g 0 j
        · rw [if_pos q2]; exact n0 (fun z => z.1.2.1 q2)
        rw [if_neg q2, rm_4 hR']
        by_cases q3 : g 4 i = g 4 j
        · rw [if_neg (fun w => w q3), n_200, gd_true (n_in (by omega) (by decide)), bS_g, n_cl (by omega)]
          have e2 := hT j hjl i (by omega)
          by_cases q4 : T (200 * i + j) = 0
          · have b0 : bfo L j i = false := by rw [← e2]; exact decide_eq_false (fun w => w q4)
            rw [if_neg (fun w => w q4)]
            refine le_X12_runRace_127 en (d + 3) _ _ _ _ _ _ _ _ ?_
            rw [if_neg (by decide), gd_true (n_in (by omega) (by decide)), rm_4 hR', n_cl (by omega), gd_true (hin i (by omega) q1.2.1), hR'.2]
            by_cases q5 : V (clp (g 4 i)) = 0
            · have yes : R i j = true := (hRR i j (by omega) hjl).mpr ⟨⟨q1, q2, q3, b0⟩, q5⟩
              rw [if_neg (fun w => w q5)]
              show _ = (some (some (Value.int (if R i j = true then (if nI c = k then (if x = 0 then nI i else nI j) else rcF R k x (rcR j (i + 1) m ++ rcA (j + 1) r) (c + 1)) else rcF R k x (rcR j (i + 1) m ++ rcA (j + 1) r) c)), bS s T) : Option qR)
              rw [if_pos yes]
              by_cases hk : nI c = k
              · rw [if_neg (fun z => z hk), if_pos hk]
                by_cases hx : x = 0
                · rw [if_neg (fun z => z hx), if_pos hx]
                · rw [if_pos hx, if_neg hx]
              · rw [if_pos hk, if_neg hk, n_ar, n_ar]
                exact ih (i + 1) j (c + 1) r (by omega) hj hjl (by omega) (by omega) (fun c' hc' => hN c' (by omega))
            · rw [if_pos q5, n_ar]
              exact no (fun z => q5 z.2)
          · rw [if_pos q4]
            exact n0 (fun z => by have w := z.1.2.2.2; rw [← e2, show tb T i j = true from decide_eq_true q4] at w; exact absurd w (by decide))
        · rw [if_pos q3]; exact n0 (fun z => q3 z.1.2.2.1)
      · rw [if_neg q1]; exact n0 (fun z => q1 z.1.1)
  have all : ∀ (r j c : Nat), j + r = n → c + 200 * r < 2 ^ 20 → L_X12_runRace_32 en (d + 3) k x (nI c) (nI j) (bS s T) = some (some (.int (rcF R k x (rcA j r) c)), bS s T) := by
    intro r
    induction r with
    | zero =>
      intro j c hj hc
      refine le_X12_runRace_32 en (d + 3) _ _ _ _ _ _ ?_
      rw [hl', if_pos (by rw [n_LE (by omega) (by omega)]; omega)]
      show (if ¬ k = -1 then _ else _) = (some (some (Value.int (if 0 ≤ k then -1 else nI c)), _) : Option qR)
      rcases hk with z | z
      · subst z
        rw [if_neg (fun w => w rfl), if_neg (by decide)]
      · rw [if_pos z, if_pos (fun w => by rw [w] at z; exact absurd z (by decide))]
    | succ r ih =>
      intro j c hj hc
      refine le_X12_runRace_32 en (d + 3) _ _ _ _ _ _ ?_
      rw [hl', if_neg (by rw [n_LE (by omega) (by omega)]; omega), rcA_s]
      exact row j 0 j c r (by omega) (by omega) (by omega) (by omega) (by omega) (fun c' hc' => by rw [n_ar]; exact ih (j + 1) c' (by omega) (by omega))
  refine le_X12_runRace en (d + 3) _ _ _ _ ?_
  have c1 : ¬ k < (-1 : Int32) := by
    rcases hk with z | z
    · subst z; decide
    · exact fun w => absurd (Int32.lt_of_le_of_lt z w) (by decide)
  have c2 : ¬ x < (0 : Int32) := by rcases hx with z | z <;> subst z <;> decide
  have c3 : x ≤ (1 : Int32) := by rcases hx with z | z <;> subst z <;> decide
  rw [if_neg hr, if_neg c1, if_neg c2, if_pos c3, e, bV_some]
  exact all n 0 0 (by omega) (by omega)
end MB2
