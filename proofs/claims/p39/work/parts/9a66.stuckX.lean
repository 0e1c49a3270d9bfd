/-! FINDINGS, the class's side: cleared; orders of locks; rings and lost ends. -/
/-- one lock further: who holds the lock that the thread is at; -1 -/
def hopS (P : Nat → fI) (N : fI) (t : Nat) : Int32 := if laS P N t = -1 then -1 else N (40 + clp (laS P N t))
def rngF (P : Nat → fI) (N : fI) (t : Nat) : Nat → Int32 → Bool
  | 0, _ => false
  | k + 1, one => if one < 0 then false else if hopS P N (clp one) = nI t then true else rngF P N t k (hopS P N (clp one))
/-- the least thread in a ring -/
def lrF (P : Nat → fI) (N : fI) : Nat → Nat → Option Nat
  | 0, _ => none
  | m + 1, t => if rngF P N t 4 (nI t) = true then some t else lrF P N m (t + 1)
def losF (N : fI) : Nat → Nat → Bool
  | 0, _ => false
  | m + 1, t => decide (N t = 2) || losF N m (t + 1)
/-- the row of what is stuck, behind one noted -/
def nsS (g : fI) (z : Nat) (sv lv : Int32) : fI :=
  let g1 : fI := if g z = 0 then (if z = 0 then upd (upd g (z + 1) sv) 2 lv else upd g (z + 1) sv) else g
  upd g1 z (g1 z + 1)
def stkS (P : Nat → fI) (N : fI) (nt : Nat) (sv : Int32) (g : fI) : fI :=
  let g1 : fI := match lrF P N nt 0 with
    | some t => nsS g 0 sv (nI t)
    | none => g
  if losF N nt 0 = true then nsS g1 3 sv (-2) else g1
section CF
variable {en : pN} {d p w nc nl nt n t u k a : Nat} {σ : qS} {P : Nat → fI} {F N G g : fI} {b sv lv : Int32}
theorem x_noteStuck {s : qS} (h80 : s.1 80 = g) (a0 : a = 0 ∨ a = 3) : qev en (d + 1) 8 [.ref 76, .int (nI a), .int sv, .int lv] s = some (none, uIr s 80 (nsS g a sv lv)) := by
  have U : ∀ (f : fI) (k : Nat) (v : Int32), uI (uIr s 80 f) 80 k v = uIr s 80 (upd f k v) := fun f k v => uIr_u
  have l29 : ∀ f : fI, L_X0_noteStuck_29 en d (nI a) (uIr s 80 f) = some (none, uIr s 80 (upd f a (f a + 1))) := by
    intro f
    refine le_X0_noteStuck_29 en d _ _ _ ?_
    rw [gd_true (n_in (by omega) (by decide)), nm_eq, n_cl (by omega), uIr_row, U]
  refine le_X0_noteStuck en d _ _ _ _ _ ?_
  have es : s = uIr s 80 g := by rw [← h80, uIr_i]
  rw [gd_true (n_in (by omega) (by decide)), n_cl (by omega), h80]
  by_cases q : g a = 0
  · rw [if_neg (fun y => y q), n_ar, gd_true (n_in (by show a + 1 < 5; omega) (by decide)), nm_eq, n_cl (by show a + 1 < _; omega)]
    have e1 : uI s 80 (a + 1) sv = uIr s 80 (upd g (a + 1) sv) := by
      have := U g (a + 1) sv
      rw [← es] at this; exact this
    rcases a0 with rfl | rfl
    · have n0 : ¬ ¬ nI 0 = (0 : Int32) := by decide
      rw [if_neg n0, nm_eq, e1, U, l29]
      unfold nsS
      simp only [if_pos q, if_true]
    · have n3 : ¬ nI 3 = (0 : Int32) := by decide
      rw [if_pos n3, e1, l29]
      unfold nsS
      simp only [if_pos q]
      rfl
  · rw [if_pos q]
    have := l29 g
    rw [← es] at this
    rw [this]
    unfold nsS
    simp only [if_neg q]
theorem x_hop {one : Nat} (hB : XB σ 71 p P) (hP : PV P nc nl nt n) (hS : SV P w nc nl nt n N) (h1 : one < nt) {r : qR} {v2 v4 : Int32} (h : L_X0_leastInRing_54 en (d + 1) 71 v2 v4 (hopS P N one) (mS σ 71 F N b G) = some r) : bI (qev en (d + 1) 51 [.ref 71, .int (nI one)] (mS σ 71 F N b G)) (fun w3 s4 => if (0 : Int32) ≤ w3 then gd (p_inB ((40 : Int32) + w3) 236 = true) (L_X0_leastInRing_54 en (d + 1) 71 v2 v4 (s4.1 (71 + 1) ((40 : Int32) + w3).toNatClampNeg) s4) else L_X0_leastInRing_54 en (d + 1) 71 v2 v4 (-1 : Int32) s4) = some r := by
  rw [x_lA hB hP hS.1 h1, bI_some]
  unfold hopS at h
  by_cases q : laS P N one = -1
  · rw [if_pos q] at h
    rw [q, if_neg (by decide)]; exact h
  · rw [if_neg q] at h
    have : ∃ l, laS P N one = nI l ∧ l < 4 := by
      unfold laS at q ⊢
      split
      · rename_i y
        have hl4 := hP.2.1.2
        have hn := hP.2.2.2.1.2
        rcases y with y | ⟨y1, y2⟩
        · obtain ⟨⟨i, hi, e, -, k7⟩, -⟩ := sv_wok (hS.1.1 one h1) y
          have ei : clp (N (4 + one)) = i := by rw [e]; exact n_clp (by omega)
          obtain ⟨-, -, -, ho, -⟩ := hP.2.2.2.2.1 i hi
          rw [ei]
          exact ⟨_, rfl, by have := (ho (by omega) (by omega)).2; omega⟩
        · obtain ⟨⟨i, hi, e, -⟩, -⟩ := sv_run (hS.1.1 one h1) y1
          have ei : clp (N (4 + one)) = i := by rw [e]; exact n_clp (by omega)
          rw [ei] at y2
          obtain ⟨-, -, -, ho, -⟩ := hP.2.2.2.2.1 i hi
          rw [ei]
          exact ⟨_, rfl, by have := (ho (by omega) (by omega)).2; omega⟩
      · rename_i y
        rw [if_neg y] at q
        exact absurd rfl q
    obtain ⟨l, el, hl⟩ := this
    rw [el] at h ⊢
    have e72 : (mS σ 71 F N b G).1 (71 + 1) = N := mS_n
    rw [if_pos (by rw [n_le (by decide) (by omega)]; omega), n_al, gd_true (n_in (by show 40 + l < 236; omega) (by decide)), n_cl (by show 40 + l < _; omega), e72]
    rw [show clp (nI l) = l from n_clp (by omega)] at h
    exact h
theorem hop_in (hP : PV P nc nl nt n) (hS : SV P w nc nl nt n N) (h1 : t < nt) : hopS P N t = -1 ∨ ∃ u, u < nt ∧ hopS P N t = nI u := by
  unfold hopS
  by_cases q : laS P N t = -1
  · rw [if_pos q]; exact Or.inl rfl
  · rw [if_neg q]
    have hl4 := hP.2.1.2
    have hn := hP.2.2.2.1.2
    have : clp (laS P N t) < 4 := by
      unfold laS at q ⊢
      split
      · rename_i y
        rcases y with y | ⟨y1, y2⟩
        · obtain ⟨⟨i, hi, e, -, k7⟩, -⟩ := sv_wok (hS.1.1 t h1) y
          have ei : clp (N (4 + t)) = i := by rw [e]; exact n_clp (by omega)
          obtain ⟨-, -, -, ho, -⟩ := hP.2.2.2.2.1 i hi
          have := (ho (by omega) (by omega)).2
          rw [ei, show clp (nI (ob P i)) = ob P i from n_clp (by omega)]; omega
        · obtain ⟨⟨i, hi, e, -⟩, -⟩ := sv_run (hS.1.1 t h1) y1
          have ei : clp (N (4 + t)) = i := by rw [e]; exact n_clp (by omega)
          rw [ei] at y2
          obtain ⟨-, -, -, ho, -⟩ := hP.2.2.2.2.1 i hi
          have := (ho (by omega) (by omega)).2
          rw [ei, show clp (nI (ob P i)) = ob P i from n_clp (by omega)]; omega
      · rename_i y
        rw [if_neg y] at q
        exact absurd rfl q
    exact ow_two hS this
theorem x_ring (hB : XB σ 71 p P) (hP : PV P nc nl nt n) (hS : SV P w nc nl nt n N) : qev en (d + 2) 9 [.ref 76, .ref 71] (mS σ 71 F N b G) = some (some (.int (match lrF P N nt 0 with
    | some t => nI t
    | none => -1)), mS σ 71 F N b G) := by
  have ht4 := hP.2.2.1.2
  have h11 := hP.2.2.1.1
  have lp5 := xb_lp hB
  have er : (mS σ 71 F N b G).2.2 71 7 = p + 1 := xb_R hB
  have e0 : (mS σ 71 F N b G).1 p = P 0 := xb_P0 hB
  have rg1 : ∀ (t : Nat), t < nt → ∀ (k n : Nat) (one : Int32), n + k = 4 → (one = -1 ∨ ∃ u, u < nt ∧ one = nI u) → ∀ r, (if rngF P N t k one = true then some (some (.int (nI t)), mS σ 71 F N b G) else L_X0_leastInRing_2 en (d + 1) 71 (nI (t + 1)) (mS σ 71 F N b G)) = some r → L_X0_leastInRing_18 en (d + 1) 71 (nI t) one (nI n) (mS σ 71 F N b G) = some r := by
    intro t ht k
    induction k with
    | zero =>
      intro n one hn ho r hr
      refine le_X0_leastInRing_18 en _ _ _ _ _ _ _ ?_
      rw [gd_true (xb_lm hB), if_pos (by rw [n_le (by decide) (by omega)]; omega), n_ar]
      rw [if_neg (by show ¬ false = true; decide)] at hr
      exact hr
    | succ k ih =>
      intro n one hn ho r hr
      refine le_X0_leastInRing_18 en _ _ _ _ _ _ _ ?_
      rw [gd_true (xb_lm hB), if_neg (by rw [n_le (by decide) (by omega)]; omega)]
      have ef : rngF P N t (k + 1) one = if one < 0 then false else if hopS P N (clp one) = nI t then true else rngF P N t k (hopS P N (clp one)) := rfl
      rw [ef] at hr
      rcases ho with rfl | ⟨u, hu, rfl⟩
      · rw [if_pos (by decide), n_ar]
        rw [if_pos (show (-1 : Int32) < 0 by decide), if_neg (by decide)] at hr
        exact hr
      · rw [if_neg (nI_pos (by omega))]
        rw [if_neg (nI_pos (by omega)), show clp (nI u) = u from n_clp (by omega)] at hr
        refine x_hop hB hP hS hu (le_X0_leastInRing_54 en _ _ _ _ _ _ _ ?_)
        rw [gd_true (xb_lm hB), n_ar]
        by_cases q : hopS P N u = nI t
        · rw [if_pos q, if_pos rfl] at hr
          rw [if_neg (fun y => y q)]; exact hr
        · rw [if_neg q] at hr
          rw [if_pos q]
          exact ih (n + 1) _ (by omega) (hop_in hP hS hu) r hr
  have rg2 : ∀ (m t : Nat), t + m = nt → L_X0_leastInRing_2 en (d + 1) 71 (nI t) (mS σ 71 F N b G) = some (some (.int (match lrF P N m t with
      | some t => nI t
      | none => -1)), mS σ 71 F N b G) := by
    intro m
    induction m with
    | zero =>
      intro t ht
      obtain rfl : t = nt := by omega
      refine le_X0_leastInRing_2 en _ _ _ _ _ ?_
      rw [gd_true (xb_lm hB), er, show p + 1 - 1 = p from rfl, gdP lp5, nm_eq, e0, h11, if_pos (Int32.le_refl _)]
      rfl
    | succ m ih =>
      intro t ht
      refine le_X0_leastInRing_2 en _ _ _ _ _ ?_
      rw [gd_true (xb_lm hB), er, show p + 1 - 1 = p from rfl, gdP lp5, nm_eq, e0, h11, if_neg (by rw [n_LE (by omega) (by omega)]; omega)]
      refine rg1 t (by omega) 4 0 (nI t) rfl (Or.inr ⟨t, by omega, rfl⟩) _ ?_
      have el : lrF P N (m + 1) t = if rngF P N t 4 (nI t) = true then some t else lrF P N m (t + 1) := rfl
      rw [el]
      by_cases q : rngF P N t 4 (nI t) = true
      · rw [if_pos q, if_pos q]
      · rw [if_neg q, if_neg q]; exact ih (t + 1) (by omega)
  refine le_X0_leastInRing en _ _ _ _ ?_
  rw [gd_true (xb_lm hB)]
  exact rg2 nt 0 (by omega)
theorem x_seeStuck {g : fI} (hB : XB σ 71 p P) (hP : PV P nc nl nt n) (hS : SV P w nc nl nt n N) (h80 : σ.1 80 = g) : qev en (d + 3) 7 [.ref 76, .ref 71, .int sv] (mS σ 71 F N b G) = some (none, mS (uIr σ 80 (stkS P N nt sv g)) 71 F N b G) := by
  have ht4 := hP.2.2.1.2
  have h11 := hP.2.2.1.1
  have lp5 := xb_lp hB
  have e72 : (mS σ 71 F N b G).1 (71 + 1) = N := mS_n
  have er : (mS σ 71 F N b G).2.2 71 7 = p + 1 := xb_R hB
  have e0 : (mS σ 71 F N b G).1 p = P 0 := xb_P0 hB
  have mR : ∀ (σ : qS) (f : fI), uIr (mS σ 71 F N b G) 80 f = mS (uIr σ 80 f) 71 F N b G := fun σ f => by
    refine Prod.ext (funext fun a => funext fun j => ?_) rfl
    show (if a = 80 then f j else if a = 71 then F j else if a = 71 + 1 then N j else if a = 10 then G j else if a = 7 ∧ j = 4 then b else σ.1 a j) = if a = 71 then F j else if a = 71 + 1 then N j else if a = 10 then G j else if a = 7 ∧ j = 4 then b else if a = 80 then f j else σ.1 a j
    by_cases q : a = 80
    · rw [if_pos q, if_neg (by omega), if_neg (by omega), if_neg (by omega), if_neg (by omega), if_pos q]
    · rw [if_neg q, if_neg q]
  have mRR : ∀ f f' : fI, uIr (uIr σ 80 f) 80 f' = uIr σ 80 f' := fun f f' => by
    refine Prod.ext (funext fun a => funext fun j => ?_) rfl
    show (if a = 80 then f' j else if a = 80 then f j else σ.1 a j) = if a = 80 then f' j else σ.1 a j
    by_cases q : a = 80
    · rw [if_pos q, if_pos q]
    · rw [if_neg q, if_neg q, if_neg q]
  have h80m : (mS σ 71 F N b G).1 80 = g := (mS_o (by decide) (by decide) (by decide) (by decide)).trans h80
  -- the end
  have l66 : ∀ (g1 : fI) (c : Bool), L_X0_seeStuck_66 en (d + 2) sv (bt c) (mS (uIr σ 80 g1) 71 F N b G) = some (none, mS (uIr σ 80 (if c = true then nsS g1 3 sv (-2) else g1)) 71 F N b G) := by
    intro g1 c
    refine le_X0_seeStuck_66 en _ _ _ _ _ ?_
    cases c
    · rw [if_pos (by decide), if_neg (by decide)]
    · have := x_noteStuck (en := en) (d := d + 1) (g := g1) (a := 3) (sv := sv) (lv := -2) (s := mS (uIr σ 80 g1) 71 F N b G) ((mS_o (by decide) (by decide) (by decide) (by decide)).trans uIr_row) (Or.inr rfl)
      rw [if_neg (by decide), show (3 : Int32) = nI 3 from rfl, this, bV_some, if_pos rfl, mR, mRR]
  have fin : ∀ c : Bool, bI (qev en (d + 2) 9 [.ref 76, .ref 71] (mS σ 71 F N b G)) (fun w4 s5 => if w4 < (0 : Int32) then L_X0_seeStuck_66 en (d + 2) sv (bt c) s5 else bV (qev en (d + 2) 8 [.ref 76, .int (0 : Int32), .int sv, .int w4] s5) (fun s9 => L_X0_seeStuck_66 en (d + 2) sv (bt c) s9)) = some (none, mS (uIr σ 80 (if c = true then nsS (match lrF P N nt 0 with
      | some t => nsS g 0 sv (nI t)
      | none => g) 3 sv (-2) else (match lrF P N nt 0 with
      | some t => nsS g 0 sv (nI t)
      | none => g))) 71 F N b G) := by
    intro c
    rw [x_ring hB hP hS, bI_some]
    have eg : mS σ 71 F N b G = mS (uIr σ 80 g) 71 F N b G := by rw [← h80, uIr_i]
    cases h : lrF P N nt 0 with
    | none =>
      show (if (-1 : Int32) < 0 then _ else _) = _
      rw [if_pos (by decide), eg]
      exact l66 g c
    | some t =>
      have ht : t < 4 := by
        have key : ∀ m u, lrF P N m u = some t → t < u + m := by
          intro m
          induction m with
          | zero => intro u h; cases h
          | succ m ih =>
            intro u h
            have h : (if rngF P N u 4 (nI u) = true then some u else lrF P N m (u + 1)) = some t := h
            split at h
            · cases h; omega
            · have := ih (u + 1) h; omega
        have := key nt 0 h
        omega
      show (if nI t < (0 : Int32) then _ else bV (qev en (d + 2) 8 [.ref 76, .int (0 : Int32), .int sv, .int (nI t)] (mS σ 71 F N b G)) _) = _
      have := x_noteStuck (en := en) (d := d + 1) (g := g) (a := 0) (sv := sv) (lv := nI t) (s := mS σ 71 F N b G) h80m (Or.inl rfl)
      rw [if_neg (nI_pos (by omega)), show (0 : Int32) = nI 0 from rfl, this, bV_some, mR]
      exact l66 _ c
  have loop : ∀ (m t : Nat) (c : Bool), t + m = nt → L_X0_seeStuck_5 en (d + 2) 71 sv (bt c) (nI t) (mS σ 71 F N b G) = some (none, mS (uIr σ 80 (if (c || losF N m t) = true then nsS (match lrF P N nt 0 with
      | some t => nsS g 0 sv (nI t)
      | none => g) 3 sv (-2) else (match lrF P N nt 0 with
      | some t => nsS g 0 sv (nI t)
      | none => g))) 71 F N b G) := by
    intro m
    induction m with
    | zero =>
      intro t c ht
      obtain rfl : t = nt := by omega
      refine le_X0_seeStuck_5 en _ _ _ _ _ _ _ ?_
      rw [gd_true (xb_lm hB), er, show p + 1 - 1 = p from rfl, gdP lp5, nm_eq, e0, h11, if_pos (Int32.le_refl _)]
      have : (c || losF N 0 t) = c := Bool.or_false c
      rw [this]
      exact fin c
    | succ m ih =>
      intro t c ht
      refine le_X0_seeStuck_5 en _ _ _ _ _ _ _ ?_
      rw [gd_true (xb_lm hB), er, show p + 1 - 1 = p from rfl, gdP lp5, nm_eq, e0, h11, if_neg (by rw [n_LE (by omega) (by omega)]; omega), n_ar, n_al, gd_true (n_in (by show 0 + t < 236; omega) (by decide)), e72, n_cl (by show 0 + t < _; omega), show (0 : Nat) + t = t from Nat.zero_add t]
      have el : losF N (m + 1) t = (decide (N t = 2) || losF N m (t + 1)) := rfl
      rw [el]
      cases c
      · rw [if_neg (by decide), Bool.false_or]
        by_cases q : N t = 2
        · rw [if_neg (fun y => y q), decide_eq_true q]
          exact ih (t + 1) true (by omega)
        · rw [if_pos q, decide_eq_false q, Bool.false_or]
          have := ih (t + 1) false (by omega)
          rw [Bool.false_or] at this
          exact this
      · rw [if_pos (by decide)]
        exact ih (t + 1) true (by omega)
  refine le_X0_seeStuck en _ _ _ _ _ ?_
  rw [gd_true (xb_lm hB)]
  have := loop nt 0 false (by omega)
  rw [Bool.false_or] at this
  exact this
end CF

