/-! THE RUN: its races, the class's side; what both sides search alike: rcF. -/
abbrev clS (P : Nat → fI) (a b : Nat) : Prop := P 9 a = P 9 b ∧ ¬ volI P (P 9 a) = true ∧ (P 7 a = 2 ∨ P 7 b = 2 ∨ ¬ (P 7 a = 1 ↔ P 7 b = 1))
section CL
variable {en : pN} {d : Nat} {s : qS} {p a b : Nat} {P f : Nat → fI}
theorem l_c87 {x y : Int32} : L_X5_clash_87 en d x y s = some (some (.int (if x = y then 0 else 1)), s) := by
  refine le_X5_clash_87 en d _ _ _ _ ?_
  by_cases h : x = y
  · rw [if_pos h, if_pos h]
  · rw [if_neg h, if_neg h]
theorem x_clash (hp : lc p = 5) (h0 : s.1 p 7 = P 0 7) (h7 : s.1 (p + 7) = P 7) (h9 : s.1 (p + 9) = P 9) (ha : a < 100) (hb : b < 100) : qev en (d + 2) 104 [.ref p, .int (nI a), .int (nI b)] s = some (some (.int (bt (decide (clS P a b)))), s) := by
  refine le_X5_clash en (d + 1) _ _ _ _ _ ?_
  rw [gd_true hp, gd_true (n_in ha (by decide))]
  show gd (p_inB (nI b) 100 = true) _ = _
  rw [gd_true (n_in hb (by decide)), h7, h9, n_cl (by omega), n_cl (by omega), x_volI hp h0]
  show (if ¬ P 9 a = P 9 b then _ else if bt (decide _) = 0 then if P 7 a = 2 then _ else if P 7 b = 2 then _ else if ¬ P 7 a = 1 then L_X5_clash_76 en (d + 1) (P 7 b) 0 s else L_X5_clash_76 en (d + 1) (P 7 b) 1 s else _) = _
  by_cases q9 : P 9 a = P 9 b
  · rw [if_neg (fun z => z q9), ibd]
    by_cases qv : ¬ ((P 0 7 >>> (P 9 a &&& 31)) &&& (1 : Int32)) = 0
    · rw [if_pos qv, decide_eq_false (fun z => z.2.1 (decide_eq_true qv))]; rfl
    · have qv' : ¬ volI P (P 9 a) = true := fun z => qv (of_decide_eq_true z)
      rw [if_neg qv]
      by_cases a2 : P 7 a = 2
      · rw [if_pos a2, decide_eq_true ⟨q9, qv', Or.inl a2⟩]; rfl
      rw [if_neg a2]
      by_cases b2 : P 7 b = 2
      · rw [if_pos b2, decide_eq_true ⟨q9, qv', Or.inr (Or.inl b2)⟩]; rfl
      rw [if_neg b2]
      have k76 : ∀ x : Int32, L_X5_clash_76 en (d + 1) (P 7 b) x s = some (some (.int (if x = (if P 7 b = 1 then 1 else 0) then 0 else 1)), s) := by
        intro x
        refine le_X5_clash_76 en (d + 1) _ _ _ _ ?_
        rw [l_c87, l_c87]
        by_cases z : P 7 b = 1
        · rw [if_neg (fun w => w z), if_pos z]
        · rw [if_pos z, if_neg z]
      rw [k76, k76]
      by_cases a1 : P 7 a = 1
      · rw [if_neg (fun w => w a1)]
        by_cases b1 : P 7 b = 1
        · rw [decide_eq_false (fun z => z.2.2.elim a2 (fun z => z.elim b2 (fun z => z ⟨fun _ => b1, fun _ => a1⟩))), if_pos b1]; rfl
        · rw [decide_eq_true ⟨q9, qv', Or.inr (Or.inr (fun z => b1 (z.mp a1)))⟩, if_neg b1]; rfl
      · rw [if_pos a1]
        by_cases b1 : P 7 b = 1
        · rw [decide_eq_true ⟨q9, qv', Or.inr (Or.inr (fun z => a1 (z.mpr b1)))⟩, if_pos b1]; rfl
        · rw [decide_eq_false (fun z => z.2.2.elim a2 (fun z => z.elim b2 (fun z => z ⟨fun w => absurd w a1, fun w => absurd w b1⟩))), if_neg b1]; rfl
  · rw [if_pos q9, decide_eq_false (fun z => q9 z.1)]; rfl
end CL
/-- the search for a race: pairs in their order, c found so far -/
def rcF (R : Nat → Nat → Bool) (k : Int32) (x : Int32) : List (Nat × Nat) → Nat → Int32
  | [], c => if 0 ≤ k then -1 else nI c
  | (i, j) :: l, c => if R i j = true then (if nI c = k then (if x = 0 then nI i else nI j) else rcF R k x l (c + 1)) else rcF R k x l c
def rcR (j i m : Nat) : List (Nat × Nat) := (List.range' i m).map (fun i => (i, j))
def rcA (j m : Nat) : List (Nat × Nat) := (List.range' j m).flatMap (fun j => rcR j 0 j)
theorem rcF_skip {R : Nat → Nat → Bool} {k x : Int32} {l1 l2 : List (Nat × Nat)} : (∀ y ∈ l1, R y.1 y.2 = false) → ∀ c, rcF R k x (l1 ++ l2) c = rcF R k x l2 c := by
  induction l1 with
  | nil => intro _ c; rfl
  | cons y l ih =>
    intro h c
    obtain ⟨i, j⟩ := y
    show (if R i j = true then _ else rcF R k x (l ++ l2) c) = _
    rw [if_neg (by rw [h (i, j) (List.mem_cons_self ..)]; decide), ih (fun y hy => h y (List.mem_cons_of_mem _ hy))]
theorem rcF_cg {R R' : Nat → Nat → Bool} {k x : Int32} {l : List (Nat × Nat)} : (∀ y ∈ l, R y.1 y.2 = R' y.1 y.2) → ∀ c, rcF R k x l c = rcF R' k x l c := by
  induction l with
  | nil => intro _ c; rfl
  | cons y l ih =>
    intro h c
    obtain ⟨i, j⟩ := y
    have ih' := ih (fun y hy => h y (List.mem_cons_of_mem _ hy))
    show (if R i j = true then (if nI c = k then _ else rcF R k x l (c + 1)) else rcF R k x l c) = (if R' i j = true then (if nI c = k then _ else rcF R' k x l (c + 1)) else rcF R' k x l c)
    rw [h (i, j) (List.mem_cons_self ..), ih', ih']
theorem rcR_mem {j i m : Nat} {y : Nat × Nat} (h : y ∈ rcR j i m) : y.2 = j ∧ i ≤ y.1 ∧ y.1 < i + m := by
  unfold rcR at h
  rw [List.mem_map] at h
  obtain ⟨a, ha, rfl⟩ := h
  have := List.mem_range'_1.mp ha
  exact ⟨rfl, this.1, this.2⟩
theorem rcA_mem {j m : Nat} {y : Nat × Nat} (h : y ∈ rcA j m) : y.1 < y.2 ∧ y.2 < j + m := by
  unfold rcA at h
  rw [List.mem_flatMap] at h
  obtain ⟨a, ha, hy⟩ := h
  have := List.mem_range'_1.mp ha
  have := rcR_mem hy
  omega
theorem rcR_s {j i m : Nat} : rcR j i (m + 1) = (i, j) :: rcR j (i + 1) m := rfl
theorem rcA_s {j m : Nat} : rcA j (m + 1) = rcR j 0 j ++ rcA (j + 1) m := rfl
section FR
variable {en : pN} {d : Nat} {s : qS} {H : fJ} {p len : Nat} {P f : Nat → fI}
abbrev rcX (P f : Nat → fI) (H : fJ) (i j : Nat) : Prop := (1 ≤ f 3 j ∧ f 3 j ≤ 4) ∧ (1 ≤ f 3 i ∧ f 3 i ≤ 4) ∧ ahd H j i = false ∧ clS P (clp (f 2 i)) (clp (f 2 j))
theorem x_findRace {k x : Int32} {R : Nat → Nat → Bool} (hRR : ∀ i j, i < j → j < len → (R i j = true ↔ rcX P f H i j)) (hR : RV s p P f) (h7 : s.1 (p + 7) = P 7) (h9 : s.1 (p + 9) = P 9) (hl : s.1 111 3 = nI len) (hlen : len ≤ 200) (hv : ∀ i, i < len → 1 ≤ f 3 i ∧ f 3 i ≤ 4 → ∃ l, l < 100 ∧ f 2 i = nI l) : qev en (d + 3) 162 [.ref 111, .int k, .int x] (hS s H) = some (some (.int (rcF R k x (rcA 0 len) 0)), hS s H) := by
  have hR' : RV (hS s H) p P f := hR
  have hl' : (hS s H).1 111 3 = nI len := hl
  have row : ∀ (m i j c n : Nat), i + m = j → j + n + 1 = len → j < len → c + m < 2 ^ 20 → i < 2 ^ 20 → (∀ c', c' ≤ c + m → L_X8_findRace_5 en (d + 2) k x (nI c') (nI j + (1 : Int32)) (hS s H) = some (some (.int (rcF R k x (rcA (j + 1) n) c')), hS s H)) → L_X8_findRace_17 en (d + 2) k x (nI c) (nI j) (nI i) (hS s H) = some (some (.int (rcF R k x (rcR j i m ++ rcA (j + 1) n) c)), hS s H) := by
    intro m
    induction m with
    | zero =>
      intro i j c n hi hj hjl hc hi2 hN
      refine le_X8_findRace_17 en (d + 2) _ _ _ _ _ _ _ ?_
      rw [if_pos (by rw [n_LE (by omega) (by omega)]; omega)]
      exact hN c (Nat.le_refl _)
    | succ m ih =>
      intro i j c n hi hj hjl hc hi2 hN
      refine le_X8_findRace_17 en (d + 2) _ _ _ _ _ _ _ ?_
      rw [if_neg (by rw [n_LE (by omega) (by omega)]; omega), x_touches hR' (by omega)]
      show (if bt (decide (1 ≤ f 3 j ∧ f 3 j ≤ 4)) = 0 then _ else _) = _
      rw [ibd]
      by_cases tj : 1 ≤ f 3 j ∧ f 3 j ≤ 4
      · rw [if_pos tj, x_touches hR' (by omega)]
        show (if bt (decide (1 ≤ f 3 i ∧ f 3 i ≤ 4)) = 0 then L_X8_findRace_17 en (d + 2) k x (nI c) (nI j) (nI i + (1 : Int32)) (hS s H) else _) = _
        rw [ibd, rcR_s]
        have nx := ih (i + 1) j c n (by omega) hj hjl (by omega) (by omega) (fun c' hc' => hN c' (by omega))
        have no : ¬ rcX P f H i j → L_X8_findRace_17 en (d + 2) k x (nI c) (nI j) (nI (i + 1)) (hS s H) = some (some (.int (rcF R k x ((i, j) :: rcR j (i + 1) m ++ rcA (j + 1) n) c)), hS s H) := by
          intro z
          rw [nx]
          congr 4
          exact (if_neg (fun w => z ((hRR i j (by omega) hjl).mp w))).symm
        by_cases ti : 1 ≤ f 3 i ∧ f 3 i ≤ 4
        · rw [if_pos ti, x_isAhead (by omega) (by omega)]
          show (if ¬ bt (ahd H j i) = 0 then L_X8_findRace_17 en (d + 2) k x (nI c) (nI j) (nI i + (1 : Int32)) (hS s H) else _) = _
          rw [n_ar]
          by_cases ha : ahd H j i = true
          · rw [if_pos (show ¬ bt (ahd H j i) = 0 by rw [ha]; decide)]
            exact no (fun z => by rw [z.2.2.1] at ha; exact absurd ha (by decide))
          · have ha' : ahd H j i = false := Bool.eq_false_iff.mpr ha
            obtain ⟨li, li1, li2⟩ := hv i (by omega) ti
            obtain ⟨lj, lj1, lj2⟩ := hv j (by omega) tj
            rw [if_neg (show ¬ ¬ bt (ahd H j i) = 0 by rw [ha']; decide), hR'.2.1, gd_true ⟨by omega, hR.2.2.1⟩]
            show gd (p_inB (nI i) 200 = true) (gd (p_inB (nI j) 200 = true) (bI (qev en (d + 2) 104 [.ref p, .int ((hS s H).1 120 (nI i).toNatClampNeg), .int ((hS s H).1 120 (nI j).toNatClampNeg)] (hS s H)) _)) = _
            rw [gd_true (n_in (by omega) (by decide)), gd_true (n_in (by omega) (by decide)), rv_2 hR', n_cl (by omega), n_cl (by omega), li2, lj2, x_clash hR.2.2.1 hR'.2.2.2 h7 h9 li1 lj1]
            show (if bt (decide (clS P li lj)) = 0 then L_X8_findRace_17 en (d + 2) k x (nI c) (nI j) (nI (i + 1)) (hS s H) else if ¬ nI c = k then L_X8_findRace_17 en (d + 2) k x (nI c + (1 : Int32)) (nI j) (nI (i + 1)) (hS s H) else if ¬ x = 0 then _ else _) = _
            rw [ibd]
            by_cases hc' : clS P li lj
            · have yes : R i j = true := (hRR i j (by omega) hjl).mpr ⟨tj, ti, ha', by rw [li2, lj2, show clp (nI li) = li from n_clp (by omega), show clp (nI lj) = lj from n_clp (by omega)]; exact hc'⟩
              rw [if_pos hc']
              show _ = (some (some (Value.int (if R i j = true then (if nI c = k then (if x = 0 then nI i else nI j) else rcF R k x (rcR j (i + 1) m ++ rcA (j + 1) n) (c + 1)) else rcF R k x (rcR j (i + 1) m ++ rcA (j + 1) n) c)), hS s H) : Option qR)
              rw [if_pos yes]
              by_cases hk : nI c = k
              · rw [if_neg (fun z => z hk), if_pos hk]
                by_cases hx : x = 0
                · rw [if_neg (fun z => z hx), if_pos hx]
                · rw [if_pos hx, if_neg hx]
              · rw [if_pos hk, if_neg hk, n_ar]
                exact ih (i + 1) j (c + 1) n (by omega) hj hjl (by omega) (by omega) (fun c' hc' => hN c' (by omega))
            · rw [if_neg hc']
              exact no (fun z => hc' (by have w := z.2.2.2; rw [li2, lj2, show clp (nI li) = li from n_clp (by omega), show clp (nI lj) = lj from n_clp (by omega)] at w; exact w))
        · rw [if_neg ti, n_ar]
          exact no (fun z => ti z.2.1)
      · rw [if_neg tj]
        have := hN c (by omega)
        rw [this]
        congr 4
        exact (rcF_skip (fun y hy => Bool.eq_false_iff.mpr (fun w => tj (by have q := rcR_mem hy; rw [q.1] at w; exact ((hRR y.1 j (by omega) hjl).mp w).1))) c).symm
  have all : ∀ (n j c : Nat), j + n = len → c + 200 * n < 2 ^ 20 → L_X8_findRace_5 en (d + 2) k x (nI c) (nI j) (hS s H) = some (some (.int (rcF R k x (rcA j n) c)), hS s H) := by
    intro n
    induction n with
    | zero =>
      intro j c hj hc
      refine le_X8_findRace_5 en (d + 2) _ _ _ _ _ _ ?_
      rw [hl', if_pos (by rw [n_LE (by omega) (by omega)]; omega)]
      show (if 0 ≤ k then _ else _) = (some (some (Value.int (if 0 ≤ k then -1 else nI c)), _) : Option qR)
      by_cases z : 0 ≤ k
      · rw [if_pos z, if_pos z]
      · rw [if_neg z, if_neg z]
    | succ n ih =>
      intro j c hj hc
      refine le_X8_findRace_5 en (d + 2) _ _ _ _ _ _ ?_
      rw [hl', if_neg (by rw [n_LE (by omega) (by omega)]; omega), rcA_s]
      exact row j 0 j c n (by omega) (by omega) (by omega) (by omega) (by omega) (fun c' hc' => by rw [n_ar]; exact ih (j + 1) c' (by omega) (by omega))
  refine le_X8_findRace en (d + 2) _ _ _ _ ?_
  exact all len 0 0 (by omega) (by omega)
end FR
