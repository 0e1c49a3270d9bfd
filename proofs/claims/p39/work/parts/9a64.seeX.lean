/-! FINDINGS of a state, the class's side: races and guards. -/
theorem clS_cls {P : Nat → fI} {nc nl nt n i j : Nat} (hP : PV P nc nl nt n) (hi : i < n) (hj : j < n) (h1 : 1 ≤ kd P i) (h4 : kd P i ≤ 4) : clS P i j ↔ cls P i j = true := by
  have hc8 := hP.1.2
  obtain ⟨⟨k1, k2⟩, -, ho, -⟩ := hP.2.2.2.2.1 i hi
  obtain ⟨⟨k3, k4⟩, -⟩ := hP.2.2.2.2.1 j hj
  have e := (ho h1 h4).1
  have v : volI P (P 9 i) = vol P (ob P i) := by rw [e]; rfl
  unfold cls
  rw [Bool.and_eq_true, Bool.and_eq_true, decide_eq_true_eq, Bool.not_eq_true']
  show (P 9 i = P 9 j ∧ ¬ volI P (P 9 i) = true ∧ (P 7 i = 2 ∨ P 7 j = 2 ∨ ¬ (P 7 i = 1 ↔ P 7 j = 1))) ↔ _
  rw [v, k1, k3, n_eq (k := 2) (by decide) (by omega), n_eq (k := 2) (by decide) (by omega), n_eq (k := 1) (by decide) (by omega), n_eq (k := 1) (by decide) (by omega), Bool.not_eq_true, and_assoc]
  refine and_congr Iff.rfl (and_congr Iff.rfl ?_)
  rw [Bool.or_eq_true, Bool.or_eq_true, decide_eq_true_eq, decide_eq_true_eq, or_assoc]
  refine or_congr Iff.rfl (or_congr Iff.rfl ?_)
  by_cases a : kd P i = 1 <;> by_cases b : kd P j = 1 <;> simp [a, b]
/-- how many of the first n entries tell a state -/
def cntP (T : fI) : Nat → Nat
  | 0 => 0
  | k + 1 => cntP T k + if T k < 0 then 0 else 1
theorem cntP_o {T : fI} {z : Nat} {v : Int32} : ∀ k, k ≤ z → cntP (upd T z v) k = cntP T k := by
  intro k
  induction k with
  | zero => intro _; rfl
  | succ k ih =>
    intro h
    unfold cntP
    rw [ih (by omega), pk_un (by omega)]
theorem cntP_s {T : fI} {z : Nat} {v : Int32} (h1 : T z < 0) (h2 : ¬ v < 0) : ∀ k, z < k → cntP (upd T z v) k = cntP T k + 1 := by
  intro k
  induction k with
  | zero => intro h; omega
  | succ k ih =>
    intro h
    unfold cntP
    by_cases q : k = z
    · subst q
      rw [cntP_o k (Nat.le_refl _), pk_us, if_neg h2, if_pos h1]
    · rw [ih (by omega), pk_un q]
      omega
theorem cntP_le {T : fI} : ∀ k, cntP T k ≤ k := by
  intro k
  induction k with
  | zero => exact Nat.le_refl 0
  | succ k ih =>
    unfold cntP
    split <;> omega
/-- the row of races where those of Q are told by this state, s -/
abbrev rcRel (T0 : fI) (sv : Int32) (Q : Nat → Prop) (T : fI) : Prop := ∀ z, (0 ≤ T0 z ∨ ¬ Q z → T z = T0 z) ∧ (¬ 0 ≤ T0 z → Q z → T z = sv)
section SE
variable {en : pN} {d p w nc nl nt n t u k sN : Nat} {σ : qS} {P : Nat → fI} {F N G T0 T : fI} {b : Int32} {Q : Nat → Prop}
theorem rcRel_same {Q' : Nat → Prop} {sv : Int32} (h : rcRel T0 sv Q T) (hq : ∀ z, Q z ↔ Q' z) : rcRel T0 sv Q' T := fun z => ⟨fun y => (h z).1 (y.imp id (fun y w => y ((hq z).mp w))), fun y1 y2 => (h z).2 y1 ((hq z).mpr y2)⟩
/-- a race told -/
def ntS (σ : qS) (z : Nat) (v : Int32) : qS := if 0 ≤ σ.1 77 z then σ else uI (uI σ 77 z v) 76 6 (σ.1 76 6 + 1)
theorem x_noteRace {a c : Nat} {v : Int32} {σ : qS} (ha : a < 100) (hc : c < 100) : qev en (d + 1) 3 [.ref 76, .int (nI a), .int (nI c), .int v] σ = some (none, ntS σ (100 * a + c) v) := by
  have ei : (nI a * (100 : Int32)) + nI c = nI (100 * a + c) := by rw [n_mr, nI_add, Nat.mul_comm]
  have hi : 100 * a + c < 10000 := by omega
  refine le_X0_noteRace en d _ _ _ _ _ ?_
  unfold ntS
  rw [ei, gd_true (n_in hi (by decide)), n_cl (by omega)]
  by_cases q : 0 ≤ σ.1 77 (100 * a + c)
  · rw [if_pos q, if_pos q]
  · rw [if_neg q, if_neg q, nm_eq, uI_ne (by decide), nm_eq]
theorem ntS_o {σ : qS} {z x : Nat} {v : Int32} (h1 : x ≠ 76) (h2 : x ≠ 77) : (ntS σ z v).1 x = σ.1 x := by
  unfold ntS
  split
  · rfl
  · rw [uI_ne h1, uI_ne h2]
theorem ntS_6 {σ : qS} {z j : Nat} {v : Int32} (h : j ≠ 6) : (ntS σ z v).1 76 j = σ.1 76 j := by
  unfold ntS
  split
  · rfl
  · rw [g_I, if_neg (fun y => h y.2), uI_ne (by decide)]
theorem ntS_2 {σ : qS} {z : Nat} {v : Int32} : (ntS σ z v).2 = σ.2 := by
  unfold ntS
  split <;> rfl
theorem ntS_77 {σ : qS} {z y : Nat} {v : Int32} : (ntS σ z v).1 77 y = if y = z ∧ ¬ 0 ≤ σ.1 77 y then v else σ.1 77 y := by
  unfold ntS
  by_cases q : 0 ≤ σ.1 77 z
  · rw [if_pos q, if_neg]
    rintro ⟨rfl, h⟩
    exact h q
  · rw [if_neg q, uI_ne (by decide), g_I]
    by_cases e : y = z
    · subst e
      rw [if_pos ⟨rfl, rfl⟩, if_pos ⟨rfl, q⟩]
    · rw [if_neg (fun h => e h.2), if_neg (fun h => e h.1)]
theorem ntS_cnt {σ : qS} {z sN : Nat} (hz : z < 10000) (hs : sN < 20000) (h : σ.1 76 6 = nI (cntP (σ.1 77) 10000)) : (ntS σ z (nI sN)).1 76 6 = nI (cntP ((ntS σ z (nI sN)).1 77) 10000) := by
  unfold ntS
  by_cases q : 0 ≤ σ.1 77 z
  · rw [if_pos q]; exact h
  · have e77 : (uI (uI σ 77 z (nI sN)) 76 6 (σ.1 76 6 + 1)).1 77 = upd (σ.1 77) z (nI sN) := by rw [uI_ne (by decide), uI_row]
    rw [if_neg q, e77, g_I, if_pos ⟨rfl, rfl⟩, cntP_s (Int32.not_le.mp q) (nI_pos (by omega)) 10000 hz, h, n_ar]
theorem ntS_m {σ : qS} {z : Nat} {v : Int32} : ntS (mS σ 71 F N b G) z v = mS (ntS σ z v) 71 F N b G := by
  unfold ntS
  rw [mS_o (by decide) (by decide) (by decide) (by decide), mS_o (by decide) (by decide) (by decide) (by decide)]
  split
  · rfl
  · rw [mS_wo (by decide) (by decide) (by decide) (by decide), mS_wo (by decide) (by decide) (by decide) (by decide)]
theorem xb_fr {σ σ' : qS} {m : Nat} (hB : XB σ m p P) (h1 : ∀ x, x = 8 ∨ x = 9 ∨ (p ≤ x ∧ x < p + 25) → σ'.1 x = σ.1 x) (h2 : σ'.2.2 = σ.2.2) : XB σ' m p P := by
  obtain ⟨a1, a2, a3, a4, a5, a6⟩ := hB
  exact ⟨a1, a2, by rw [h2]; exact a3, fun a ha => by rw [h1 _ (Or.inr (Or.inr ⟨by omega, by omega⟩))]; exact a4 a ha, by rw [h1 8 (Or.inl rfl)]; exact a5, by rw [h1 9 (Or.inr (Or.inl rfl))]; exact a6⟩
/-- what seeing a state keeps -/
abbrev frSe (σ σ' : qS) : Prop := (∀ x, x ≠ 76 → x ≠ 77 → x ≠ 78 → x ≠ 81 → σ'.1 x = σ.1 x) ∧ (∀ j, j ≠ 6 → σ'.1 76 j = σ.1 76 j) ∧ σ'.2 = σ.2
theorem frSe.tr {σ σ' σ'' : qS} (h : frSe σ σ') (g : frSe σ' σ'') : frSe σ σ'' := ⟨fun x h1 h2 h3 h4 => (g.1 x h1 h2 h3 h4).trans (h.1 x h1 h2 h3 h4), fun j hj => (g.2.1 j hj).trans (h.2.1 j hj), g.2.2.trans h.2.2⟩
theorem frSe.XB {σ σ' : qS} (hB : XB σ 71 p P) (h : frSe σ σ') : XB σ' 71 p P := xb_fr hB (fun x hx => h.1 x (by have := hB.2.1; omega) (by have := hB.2.1; omega) (by have := hB.2.1; omega) (by have := hB.2.1; omega)) (by rw [h.2.2])
/-- what holds while a state is seen: threads up to t are through -/
abbrev seI (P : Nat → fI) (w : Nat) (N : fI) (nl nt : Nat) (T0 g0 : fI) (sN : Nat) (σ0 σ : qS) (Q : Nat → Prop) (t tg : Nat) : Prop := frSe σ0 σ ∧ rcRel T0 (nI sN) Q (σ.1 77) ∧ σ.1 76 6 = nI (cntP (σ.1 77) 10000) ∧ (∀ c, c < 8 → σ.1 78 c = guT P w N nl nt tg g0 c) ∧ ∀ v, v < t → σ.1 81 v = if tch P w N nt v then N (4 + v) else -1
theorem x_see {g0 : fI} (hB : XB σ 71 p P) (hP : PV P nc nl nt n) (hS : SV P w nc nl nt n N) (hw : F 8 = nI w) (hw2 : w ≤ 2) (hsN : sN < 20000) (hT : σ.1 77 = T0) (hcn : σ.1 76 6 = nI (cntP T0 10000)) (hg : ∀ c, c < 8 → σ.1 78 c = g0 c) : ∃ (σ' : qS) (G' : fI) (b' : Int32), qev en (d + 7) 2 [.ref 76, .ref 71, .int (nI sN)] (mS σ 71 F N b G) = some (none, mS σ' 71 F N b' G') ∧ frSe σ σ' ∧ rcRel T0 (nI sN) (hasR P w N nt) (σ'.1 77) ∧ σ'.1 76 6 = nI (cntP (σ'.1 77) 10000) ∧ (∀ c, c < 8 → σ'.1 78 c = guT P w N nl nt nt g0 c) := by
  have hp2 := hB.2.1
  have hc8 := hP.1.2
  have hl4 := hP.2.1.2
  have ht4 := hP.2.2.1.2
  have hn100 := hP.2.2.2.1.2
  have h11 := hP.2.2.1.1
  have h10 := hP.2.1.1
  have lp5 := xb_lp hB
  have oM : ∀ (σ : qS) (b : Int32) (G : fI) (a : Nat), a ≠ 71 → a ≠ 72 → a ≠ 10 → a ≠ 7 → (mS σ 71 F N b G).1 a = σ.1 a := fun σ b G a h1 h2 h3 h4 => mS_o h1 h2 h3 h4
  have wO : ∀ (σ : qS) (b : Int32) (G : fI) (a k : Nat) (v : Int32), a ≠ 71 → a ≠ 72 → a ≠ 10 → a ≠ 7 → uI (mS σ 71 F N b G) a k v = mS (uI σ a k v) 71 F N b G := fun σ b G a k v h1 h2 h3 h4 => mS_wo h1 h2 h3 h4
  have hPr : ∀ (σ1 : qS) (b : Int32) (G : fI), frSe σ σ1 → (∀ a, a < 25 → a ≠ 0 → (mS σ1 71 F N b G).1 (p + a) = P a) ∧ (mS σ1 71 F N b G).1 p = P 0 := fun σ1 b G f1 => ⟨fun a ha _ => xb_P (f1.XB hB) ha, xb_P0 (f1.XB hB)⟩
  -- the lines of threads
  have lnF : ∀ v, v < nt → (N (4 + v) = -1 ∨ ∃ i, i < n ∧ N (4 + v) = nI i) := fun v hv => ln_two hS hv
  have tcF : ∀ v, v < nt → tch P w N nt v = true → ∃ i, i < n ∧ N (4 + v) = nI i ∧ 1 ≤ kd P i ∧ kd P i ≤ 4 := fun v hv h => by
    unfold tch at h
    rw [Bool.and_eq_true, Bool.and_eq_true, Bool.and_eq_true, decide_eq_true_eq, decide_eq_true_eq, decide_eq_true_eq, decide_eq_true_eq] at h
    rcases lnF v hv with z | ⟨i, hi, e⟩
    · have := sv_run (hS.1.1 v hv) h.1.1.1
      obtain ⟨⟨i, hi, e, -⟩, -⟩ := this
      rw [z] at e; exact absurd e.symm (by rw [n_m1 (by omega)]; exact id)
    · have el : lnS N v = i := by show clp (N (4 + v)) = i; rw [e]; exact n_clp (by omega)
      rw [el] at h
      exact ⟨i, hi, e, h.1.1.2, h.1.2⟩
  -- pairs of thread t
  have pairs : ∀ (t : Nat), t < nt → ∀ (m u : Nat) (Q : Nat → Prop) (σ1 : qS) (b1 : Int32) (G1 : fI), u + m = t → seI P w N nl nt T0 g0 sN σ σ1 Q (t + 1) (t + 1) → ∃ (σ2 : qS) (Q2 : Nat → Prop), seI P w N nl nt T0 g0 sN σ σ2 Q2 (t + 1) (t + 1) ∧ (∀ z, Q2 z ↔ Q z ∨ ∃ v, u ≤ v ∧ v < t ∧ rcT P w N nt t v z = true) ∧ ∀ r, L_X0_see_8 en (d + 6) 71 (nI sN) p (nI (t + 1)) (mS σ2 71 F N b1 G1) = some r → L_X0_see_107 en (d + 6) 71 (nI sN) p (nI t) (N (4 + t)) (bt (tch P w N nt t)) (nI u) (mS σ1 71 F N b1 G1) = some r := by
    intro t ht m
    induction m with
    | zero =>
      intro u Q σ1 b1 G1 hu h
      refine ⟨σ1, Q, h, fun z => ⟨Or.inl, fun y => y.elim id (fun ⟨v, h1, h2, _⟩ => by omega)⟩, fun r hr => le_X0_see_107 en _ _ _ _ _ _ _ _ _ _ ?_⟩
      rw [gd_true (xb_lm hB), gd_true lp5, if_pos (by rw [n_LE (by omega) (by omega)]; omega), n_ar]
      exact hr
    | succ m ih =>
      intro u Q σ1 b1 G1 hu h
      have next : ∀ (σ2 : qS) (Q2 : Nat → Prop), seI P w N nl nt T0 g0 sN σ σ2 Q2 (t + 1) (t + 1) → (∀ z, Q2 z ↔ Q z ∨ rcT P w N nt t u z = true) → (∀ r, L_X0_see_107 en (d + 6) 71 (nI sN) p (nI t) (N (4 + t)) (bt (tch P w N nt t)) (nI (u + 1)) (mS σ2 71 F N b1 G1) = some r → L_X0_see_107 en (d + 6) 71 (nI sN) p (nI t) (N (4 + t)) (bt (tch P w N nt t)) (nI u) (mS σ1 71 F N b1 G1) = some r) → ∃ (σ2 : qS) (Q2 : Nat → Prop), seI P w N nl nt T0 g0 sN σ σ2 Q2 (t + 1) (t + 1) ∧ (∀ z, Q2 z ↔ Q z ∨ ∃ v, u ≤ v ∧ v < t ∧ rcT P w N nt t v z = true) ∧ ∀ r, L_X0_see_8 en (d + 6) 71 (nI sN) p (nI (t + 1)) (mS σ2 71 F N b1 G1) = some r → L_X0_see_107 en (d + 6) 71 (nI sN) p (nI t) (N (4 + t)) (bt (tch P w N nt t)) (nI u) (mS σ1 71 F N b1 G1) = some r := by
        intro σ2 Q2 h2 hq hr
        obtain ⟨σ3, Q3, h3, hq3, hr3⟩ := ih (u + 1) Q2 σ2 b1 G1 (by omega) h2
        refine ⟨σ3, Q3, h3, fun z => ?_, fun r hh => hr r (hr3 r hh)⟩
        rw [hq3, hq]
        constructor
        · rintro ((y | y) | ⟨v, h1, h2, y⟩)
          · exact Or.inl y
          · exact Or.inr ⟨u, Nat.le_refl _, by omega, y⟩
          · exact Or.inr ⟨v, by omega, h2, y⟩
        · rintro (y | ⟨v, h1, h2, y⟩)
          · exact Or.inl (Or.inl y)
          · by_cases q : v = u
            · subst q; exact Or.inl (Or.inr y)
            · exact Or.inr ⟨v, by omega, h2, y⟩
      have none0 : rcT P w N nt t u = (fun _ => false) → ∀ z, Q z ↔ Q z ∨ rcT P w N nt t u z = true := fun e z => by rw [e]; simp
      have head : ∀ r, (if bt (tch P w N nt t) = (0 : Int32) then L_X0_see_107 en (d + 6) 71 (nI sN) p (nI t) (N (4 + t)) (bt (tch P w N nt t)) (nI (u + 1)) (mS σ1 71 F N b1 G1) else if (if tch P w N nt u then N (4 + u) else -1) < (0 : Int32) then L_X0_see_107 en (d + 6) 71 (nI sN) p (nI t) (N (4 + t)) (bt (tch P w N nt t)) (nI (u + 1)) (mS σ1 71 F N b1 G1) else bI (qev en (d + 6) 104 [.ref p, .int (N (4 + t)), .int (if tch P w N nt u then N (4 + u) else -1)] (mS σ1 71 F N b1 G1)) (fun w5 s6 => if w5 = (0 : Int32) then L_X0_see_107 en (d + 6) 71 (nI sN) p (nI t) (N (4 + t)) (bt (tch P w N nt t)) (nI u + (1 : Int32)) s6 else bI (qev en (d + 6) 412 [.int (N (4 + t)), .int (s6.1 81 (nI u).toNatClampNeg)] s6) (fun w9 s10 => bI (qev en (d + 6) 411 [.int (N (4 + t)), .int (s10.1 81 (nI u).toNatClampNeg)] s10) (fun w12 s13 => bV (qev en (d + 6) 3 [.ref 76, .int w9, .int w12, .int (nI sN)] s13) (fun s16 => L_X0_see_107 en (d + 6) 71 (nI sN) p (nI t) (N (4 + t)) (bt (tch P w N nt t)) (nI u + (1 : Int32)) s16))))) = some r → L_X0_see_107 en (d + 6) 71 (nI sN) p (nI t) (N (4 + t)) (bt (tch P w N nt t)) (nI u) (mS σ1 71 F N b1 G1) = some r := by
        intro r hr
        refine le_X0_see_107 en _ _ _ _ _ _ _ _ _ _ ?_
        have e81 : (mS σ1 71 F N b1 G1).1 81 u = if tch P w N nt u then N (4 + u) else -1 := by
          rw [oM _ _ _ 81 (by decide) (by decide) (by decide) (by decide)]
          exact h.2.2.2.2 u (by omega)
        rw [gd_true (xb_lm hB), gd_true lp5, if_neg (by rw [n_LE (by omega) (by omega)]; omega), gd_true (n_in (by omega) (by decide)), n_cl (by omega), e81, n_ar]
        rw [n_cl (by omega), n_ar] at hr
        exact hr
      by_cases tt : tch P w N nt t = true
      · by_cases tu : tch P w N nt u = true
        · obtain ⟨i, hi, ei, i1, i4⟩ := tcF t ht tt
          obtain ⟨j, hj, ej, j1, j4⟩ := tcF u (by omega) tu
          have li : lnS N t = i := by show clp (N (4 + t)) = i; rw [ei]; exact n_clp (by omega)
          have lj : lnS N u = j := by show clp (N (4 + u)) = j; rw [ej]; exact n_clp (by omega)
          have hR : ∀ z, rcT P w N nt t u z = (cls P i j && decide (z = rix i j)) := fun z => by
            unfold rcT
            rw [tt, tu, li, lj]; rfl
          rw [tt, tu, if_neg (by decide), if_pos rfl, ej, ei, if_neg (nI_pos (by omega))] at head
          have fP := hPr σ1 b1 G1 h.1
          have ec := x_clash (en := en) (d := d + 4) (s := mS σ1 71 F N b1 G1) (p := p) (a := i) (b := j) (P := P) lp5 (by rw [fP.2]) (fP.1 7 (by decide) (by decide)) (fP.1 9 (by decide) (by decide)) (by omega) (by omega)
          rw [ec, bI_some] at head
          rw [ei, tt] at next ⊢
          by_cases c : cls P i j = true
          · have c' : clS P i j := (clS_cls hP hi hj i1 i4).mpr c
            have hmi : min i j < 100 := by omega
            have hma : max i j < 100 := by omega
            have nr := x_noteRace (en := en) (d := d + 5) (v := nI sN) (σ := mS σ1 71 F N b1 G1) hmi hma
            rw [ntS_m] at nr
            have hri : rix i j < 10000 := by show 100 * min i j + max i j < 10000; omega
            refine next (ntS σ1 (rix i j) (nI sN)) (fun z => Q z ∨ rcT P w N nt t u z = true) ⟨⟨fun x h1 h2 h3 h4 => (ntS_o h1 h2).trans (h.1.1 x h1 h2 h3 h4), fun j hj => (ntS_6 hj).trans (h.1.2.1 j hj), ntS_2.trans h.1.2.2⟩, fun z => ?_, ntS_cnt hri hsN h.2.2.1, fun c hc => by rw [ntS_o (by decide) (by decide)]; exact h.2.2.2.1 c hc, fun v hv => by rw [ntS_o (by decide) (by decide)]; exact h.2.2.2.2 v hv⟩ (fun z => Iff.rfl) (fun r hr => head r ?_)
            · show (0 ≤ T0 z ∨ ¬ (Q z ∨ rcT P w N nt t u z = true) → (ntS σ1 (rix i j) (nI sN)).1 77 z = T0 z) ∧ (¬ 0 ≤ T0 z → (Q z ∨ rcT P w N nt t u z = true) → (ntS σ1 (rix i j) (nI sN)).1 77 z = nI sN)
              rw [ntS_77, hR, c, Bool.true_and, decide_eq_true_eq]
              obtain ⟨r1, r2⟩ := h.2.1 z
              refine ⟨fun y => ?_, fun y1 y2 => ?_⟩
              · by_cases z0 : 0 ≤ T0 z
                · have e := r1 (Or.inl z0)
                  rw [if_neg (fun w => w.2 (by rw [e]; exact z0))]; exact e
                · have y := y.resolve_left z0
                  rw [if_neg (fun w => y (Or.inr w.1))]
                  exact r1 (Or.inr (fun w => y (Or.inl w)))
              · by_cases qz : Q z
                · have e := r2 y1 qz
                  rw [if_neg (fun w => w.2 (by rw [e]; exact Int32.not_lt.mp (nI_pos (by omega))))]; exact e
                · have e := r1 (Or.inr qz)
                  rw [if_pos ⟨y2.resolve_left qz, by rw [e]; exact y1⟩]
            · rw [decide_eq_true c', if_neg (by decide)]
              have e81 : ∀ σ3 : qS, σ3 = mS σ1 71 F N b1 G1 → σ3.1 81 (nI u).toNatClampNeg = nI j := fun σ3 e => by
                rw [e, oM _ _ _ 81 (by decide) (by decide) (by decide) (by decide), n_cl (by omega), h.2.2.2.2 u (by omega), tu, if_pos rfl, ej]
              rw [e81 _ rfl, x_minN (by omega) (by omega), bI_some, e81 _ rfl, x_maxN (by omega) (by omega), bI_some, nr, bV_some, n_ar]
              exact hr
          · have c' : ¬ clS P i j := fun y => c ((clS_cls hP hi hj i1 i4).mp y)
            rw [decide_eq_false c', if_pos (by decide), n_ar] at head
            exact next σ1 Q h (none0 (funext fun z => by rw [hR, show cls P i j = false by simpa using c, Bool.false_and])) head
        · have tu' : tch P w N nt u = false := by simpa using tu
          rw [tu', if_neg (by decide : ¬ false = true), if_pos (by decide : (-1 : Int32) < 0)] at head
          refine next σ1 Q h (none0 (funext fun z => by unfold rcT; rw [tu', Bool.and_false, Bool.false_and, Bool.false_and])) (fun r hr => head r ?_)
          split <;> exact hr
      · have tt' : tch P w N nt t = false := by simpa using tt
        rw [tt', if_pos (by decide)] at head
        rw [tt'] at next ⊢
        exact next σ1 Q h (none0 (funext fun z => by unfold rcT; rw [tt', Bool.false_and, Bool.false_and, Bool.false_and])) head
  -- threads
  have thr : ∀ (m t : Nat) (Q : Nat → Prop) (σ1 : qS) (b1 : Int32) (G1 : fI), t + m = nt → seI P w N nl nt T0 g0 sN σ σ1 Q t t → ∃ (σ2 : qS) (G2 : fI) (b2 : Int32) (Q2 : Nat → Prop), L_X0_see_8 en (d + 6) 71 (nI sN) p (nI t) (mS σ1 71 F N b1 G1) = some (none, mS σ2 71 F N b2 G2) ∧ seI P w N nl nt T0 g0 sN σ σ2 Q2 nt nt ∧ ∀ z, Q2 z ↔ Q z ∨ ∃ t' u, t ≤ t' ∧ t' < nt ∧ u < t' ∧ rcT P w N nt t' u z = true := by
    intro m
    induction m with
    | zero =>
      intro t Q σ1 b1 G1 ht h
      obtain rfl : t = nt := by omega
      have fP := hPr σ1 b1 G1 h.1
      refine ⟨σ1, G1, b1, Q, le_X0_see_8 en _ _ _ _ _ _ _ ?_, h, fun z => ⟨Or.inl, fun y => y.elim id (fun ⟨t', u, h1, h2, _⟩ => by omega)⟩⟩
      rw [gd_true (xb_lm hB), gd_true lp5, fP.2, h11, if_pos (Int32.le_refl _)]
    | succ m ih =>
      intro t Q σ1 b1 G1 ht h
      have htn : t < nt := by omega
      have fP := hPr σ1 b1 G1 h.1
      have HB1 := h.1.XB hB
      -- the thread's own part
      refine (fun (key : ∃ (G2 : fI) (b2 : Int32), ∀ r, L_X0_see_56 en (d + 6) 71 (nI sN) p (nI t) (N (4 + t)) (bt (tch P w N nt t)) (mS σ1 71 F N b2 G2) = some r → L_X0_see_8 en (d + 6) 71 (nI sN) p (nI t) (mS σ1 71 F N b1 G1) = some r) => ?_) ?_
      · obtain ⟨G2, b2, key⟩ := key
        -- 81 written, the guard too
        let σ2 : qS := uI σ1 81 t (if tch P w N nt t then N (4 + t) else -1)
        have k56 : ∀ r, L_X0_see_75 en (d + 6) 71 (nI sN) p (nI t) (N (4 + t)) (bt (tch P w N nt t)) (nI t) (if tch P w N nt t then N (4 + t) else -1) (mS σ1 71 F N b2 G2) = some r → L_X0_see_56 en (d + 6) 71 (nI sN) p (nI t) (N (4 + t)) (bt (tch P w N nt t)) (mS σ1 71 F N b2 G2) = some r := by
          intro r hr
          refine le_X0_see_56 en _ _ _ _ _ _ _ _ _ ?_
          rw [gd_true (xb_lm hB), gd_true lp5]
          cases tt : tch P w N nt t with
          | true => rw [tt] at hr; rw [if_neg (by decide)]; exact hr
          | false => rw [tt] at hr; rw [if_pos (by decide)]; exact hr
        refine (fun (key2 : ∃ σ3 : qS, seI P w N nl nt T0 g0 sN σ σ3 Q (t + 1) (t + 1) ∧ ∀ r, L_X0_see_107 en (d + 6) 71 (nI sN) p (nI t) (N (4 + t)) (bt (tch P w N nt t)) (nI 0) (mS σ3 71 F N b2 G2) = some r → L_X0_see_75 en (d + 6) 71 (nI sN) p (nI t) (N (4 + t)) (bt (tch P w N nt t)) (nI t) (if tch P w N nt t then N (4 + t) else -1) (mS σ1 71 F N b2 G2) = some r) => ?_) ?_
        · obtain ⟨σ3, h3, k3⟩ := key2
          obtain ⟨σ4, Q4, h4, hq4, k4⟩ := pairs t htn t 0 Q σ3 b2 G2 (by omega) h3
          obtain ⟨σ5, G5, b5, Q5, e5, h5, hq5⟩ := ih (t + 1) Q4 σ4 b2 G2 (by omega) h4
          refine ⟨σ5, G5, b5, Q5, key _ (k56 _ (k3 _ (k4 _ e5))), h5, fun z => ?_⟩
          rw [hq5, hq4]
          constructor
          · rintro ((y | ⟨v, h1, h2, y⟩) | ⟨t', u, h1, h2, h3, y⟩)
            · exact Or.inl y
            · exact Or.inr ⟨t, v, Nat.le_refl _, htn, h2, y⟩
            · exact Or.inr ⟨t', u, by omega, h2, h3, y⟩
          · rintro (y | ⟨t', u, h1, h2, hu3, y⟩)
            · exact Or.inl (Or.inl y)
            · by_cases q : t' = t
              · rw [q] at hu3 y; exact Or.inl (Or.inr ⟨u, Nat.zero_le _, hu3, y⟩)
              · exact Or.inr ⟨t', u, by omega, h2, hu3, y⟩
        · -- what is written
          have w81 : uI (mS σ1 71 F N b2 G2) 81 t (if tch P w N nt t then N (4 + t) else -1) = mS σ2 71 F N b2 G2 := wO _ _ _ 81 t _ (by decide) (by decide) (by decide) (by decide)
          have f2 : frSe σ σ2 := ⟨fun x h1 h2 h3 h4 => (uI_ne h4).trans (h.1.1 x h1 h2 h3 h4), fun j hj => by rw [show σ2.1 76 = σ1.1 76 from uI_ne (by decide)]; exact h.1.2.1 j hj, h.1.2.2⟩
          have r77 : σ2.1 77 = σ1.1 77 := uI_ne (by decide)
          have r76 : σ2.1 76 = σ1.1 76 := uI_ne (by decide)
          have r78 : σ2.1 78 = σ1.1 78 := uI_ne (by decide)
          have r81 : ∀ v, v < t + 1 → σ2.1 81 v = if tch P w N nt v then N (4 + v) else -1 := fun v hv => by
            show (uI σ1 81 t _).1 81 v = _
            rw [g_I]
            by_cases q : v = t
            · rw [if_pos ⟨rfl, q⟩, q]
            · rw [if_neg (fun y => q y.2)]; exact h.2.2.2.2 v (by omega)
          have k75 : ∀ r, (if bt (tch P w N nt t) = (0 : Int32) then L_X0_see_107 en (d + 6) 71 (nI sN) p (nI t) (N (4 + t)) (bt (tch P w N nt t)) (0 : Int32) (mS σ2 71 F N b2 G2) else gd (p_inB (N (4 + t)) 100 = true) (gd (p_inB ((mS σ2 71 F N b2 G2).1 (p + 9) (N (4 + t)).toNatClampNeg) 8 = true) (bI (qev en (d + 6) 50 [.ref 71, .int (nI t)] (mS σ2 71 F N b2 G2)) (fun w6 s7 => nm (uI s7 78 (((mS σ2 71 F N b2 G2).1 (p + 9) (N (4 + t)).toNatClampNeg).toNatClampNeg) (((mS σ2 71 F N b2 G2).1 78 ((mS σ2 71 F N b2 G2).1 (p + 9) (N (4 + t)).toNatClampNeg).toNatClampNeg) &&& w6)) (fun s9 => L_X0_see_107 en (d + 6) 71 (nI sN) p (nI t) (N (4 + t)) (bt (tch P w N nt t)) (0 : Int32) s9))))) = some r → L_X0_see_75 en (d + 6) 71 (nI sN) p (nI t) (N (4 + t)) (bt (tch P w N nt t)) (nI t) (if tch P w N nt t then N (4 + t) else -1) (mS σ1 71 F N b2 G2) = some r := by
            intro r hr
            refine le_X0_see_75 en _ _ _ _ _ _ _ _ _ _ _ ?_
            rw [gd_true (xb_lm hB), gd_true lp5, gd_true (n_in (by omega) (by decide)), nm_eq, n_cl (by omega), w81]
            exact hr
          by_cases tt : tch P w N nt t = true
          · obtain ⟨i, hi, ei, i1, i4⟩ := tcF t htn tt
            have li : lnS N t = i := by show clp (N (4 + t)) = i; rw [ei]; exact n_clp (by omega)
            obtain ⟨-, -, ho, -⟩ := hP.2.2.2.2.1 i hi
            obtain ⟨o1, o2⟩ := ho i1 i4
            have fP2 := hPr σ2 b2 G2 f2
            have HB2 := f2.XB hB
            let σ3 : qS := uI σ2 78 (ob P i) (σ2.1 78 (ob P i) &&& loB N t nl)
            have w78 : uI (mS σ2 71 F N b2 G2) 78 (ob P i) (σ2.1 78 (ob P i) &&& loB N t nl) = mS σ3 71 F N b2 G2 := wO _ _ _ 78 _ _ (by decide) (by decide) (by decide) (by decide)
            refine ⟨σ3, ⟨⟨fun x h1 h2 h3 h4 => (uI_ne h3).trans (f2.1 x h1 h2 h3 h4), fun j hj => by rw [show σ3.1 76 = σ2.1 76 from uI_ne (by decide)]; exact f2.2.1 j hj, f2.2.2⟩, by rw [show σ3.1 77 = σ2.1 77 from uI_ne (by decide), r77]; exact h.2.1, by rw [show σ3.1 77 = σ2.1 77 from uI_ne (by decide), show σ3.1 76 = σ2.1 76 from uI_ne (by decide), r77, r76]; exact h.2.2.1, fun c hc => ?_, fun v hv => by rw [show σ3.1 81 = σ2.1 81 from uI_ne (by decide)]; exact r81 v hv⟩, fun r hr => k75 r ?_⟩
            · show (uI σ2 78 (ob P i) (σ2.1 78 (ob P i) &&& loB N t nl)).1 78 c = guT P w N nl nt (t + 1) g0 c
              unfold guT
              rw [if_pos tt, li, g_I, r78]
              by_cases q : c = ob P i
              · rw [if_pos ⟨rfl, q⟩, q, pk_us, h.2.2.2.1 _ (by omega)]
              · rw [if_neg (fun y => q y.2), pk_un q]; exact h.2.2.2.1 c hc
            · rw [tt] at hr ⊢
              rw [if_neg (by decide), ei, gd_true (n_in (by omega) (by decide)), n_cl (by omega), fP2.1 9 (by decide) (by decide), o1, gd_true (n_in (by omega) (by decide)), n_cl (by omega), x_loB (d := d + 5) HB2 h10 hl4, bI_some, nm_eq, oM _ _ _ 78 (by decide) (by decide) (by decide) (by decide), w78]
              rw [ei] at hr
              exact hr
          · have tt' : tch P w N nt t = false := by simpa using tt
            refine ⟨σ2, ⟨f2, by rw [r77]; exact h.2.1, by rw [r77, r76]; exact h.2.2.1, fun c hc => ?_, r81⟩, fun r hr => k75 r ?_⟩
            · unfold guT
              rw [if_neg tt, r78]; exact h.2.2.2.1 c hc
            · rw [tt'] at hr ⊢
              rw [if_pos (by decide)]
              exact hr
      · -- whether it touches
        have start : ∀ r, (if N (4 + t) < (0 : Int32) then L_X0_see_56 en (d + 6) 71 (nI sN) p (nI t) (N (4 + t)) (0 : Int32) (mS σ1 71 F N b1 G1) else bI (qev en (d + 6) 103 [.ref p, .int (N (4 + t))] (mS σ1 71 F N b1 G1)) (fun w5 s6 => if w5 = (0 : Int32) then L_X0_see_56 en (d + 6) 71 (nI sN) p (nI t) (N (4 + t)) (0 : Int32) s6 else bI (qev en (d + 6) 44 [.ref 71, .int (nI t)] s6) (fun w9 s10 => if w9 ≤ (0 : Int32) then L_X0_see_56 en (d + 6) 71 (nI sN) p (nI t) (N (4 + t)) (0 : Int32) s10 else L_X0_see_56 en (d + 6) 71 (nI sN) p (nI t) (N (4 + t)) (1 : Int32) s10))) = some r → L_X0_see_8 en (d + 6) 71 (nI sN) p (nI t) (mS σ1 71 F N b1 G1) = some r := by
          intro r hr
          refine le_X0_see_8 en _ _ _ _ _ _ _ ?_
          have e72 : (mS σ1 71 F N b1 G1).1 (71 + 1) = N := mS_n
          rw [gd_true (xb_lm hB), gd_true lp5, fP.2, h11, if_neg (by rw [n_LE (by omega) (by omega)]; omega), n_al, gd_true (n_in (by show 4 + t < 236; omega) (by decide)), nm_eq, e72, n_cl (by show 4 + t < _; omega)]
          exact hr
        rcases lnF t htn with z | ⟨i, hi, ei⟩
        · refine ⟨G1, b1, fun r hr => start r ?_⟩
          have tt : tch P w N nt t = false := by
            cases tt : tch P w N nt t with
            | false => rfl
            | true =>
              obtain ⟨i, hi, ei, -⟩ := tcF t htn tt
              rw [z] at ei; exact absurd ei.symm (by rw [n_m1 (by omega)]; exact id)
          rw [tt] at hr
          rw [if_pos (by rw [z]; decide)]
          exact hr
        · have li : lnS N t = i := by show clp (N (4 + t)) = i; rw [ei]; exact n_clp (by omega)
          obtain ⟨⟨k1, k2⟩, -⟩ := hP.2.2.2.2.1 i hi
          have e103 : qev en (d + 6) 103 [.ref p, .int (nI i)] (mS σ1 71 F N b1 G1) = some (some (.int (bt (decide (1 ≤ kd P i ∧ kd P i ≤ 4)))), mS σ1 71 F N b1 G1) := by
            refine le_X5_touches en (d + 5) _ _ _ _ ?_
            rw [gd_true lp5, gd_true (n_in (by omega) (by decide)), fP.1 7 (by decide) (by decide), n_cl (by omega), k1]
            by_cases a : kd P i < 1
            · rw [if_pos (by rw [n_gt (by decide) (by omega)]; exact a), decide_eq_false (by omega)]; rfl
            · rw [if_neg (by rw [n_gt (by decide) (by omega)]; exact a)]
              by_cases c : 4 < kd P i
              · rw [if_pos (by rw [n_lt (by decide) (by omega)]; exact c), decide_eq_false (by omega)]; rfl
              · rw [if_neg (by rw [n_lt (by decide) (by omega)]; exact c), decide_eq_true (by omega)]; rfl
          rw [ei] at start ⊢
          rw [if_neg (nI_pos (by omega)), e103, bI_some] at start
          by_cases k14 : 1 ≤ kd P i ∧ kd P i ≤ 4
          · obtain ⟨G2, b2, e2⟩ := x_choices (en := en) (d := d + 1) (b := b1) (G := G1) HB1 hP hS hw hw2 htn
            rw [decide_eq_true k14, if_neg (by decide), e2, bI_some] at start
            refine ⟨G2, b2, fun r hr => start r ?_⟩
            have cle := ch_le hP hS htn
            -- it runs, if it has choices
            have tt : tch P w N nt t = decide (0 < chs P w N t nt) := by
              unfold tch
              rw [li, decide_eq_true k14.1, decide_eq_true k14.2, Bool.and_true, Bool.and_true]
              by_cases s1 : N t = 1
              · rw [decide_eq_true s1, Bool.true_and]
              · rw [decide_eq_false s1, Bool.false_and]
                have : chs P w N t nt = 0 := by
                  unfold chs
                  by_cases s3 : N t = 3
                  · obtain ⟨⟨i', hi', e', -, k7⟩, -⟩ := sv_wok (hS.1.1 t htn) s3
                    rw [ei] at e'
                    have := (nI_eq (by omega) (by omega)).mp e'
                    subst this
                    omega
                  · rw [if_neg s3, if_neg s1]
                rw [this]; rfl
            rw [tt] at hr
            by_cases c0 : 0 < chs P w N t nt
            · rw [decide_eq_true c0] at hr
              rw [if_neg (by rw [n_ge (by decide) (by omega)]; omega)]; exact hr
            · rw [decide_eq_false c0] at hr
              rw [if_pos (by rw [n_ge (by decide) (by omega)]; omega)]; exact hr
          · rw [decide_eq_false k14, if_pos (by decide)] at start
            refine ⟨G1, b1, fun r hr => start r ?_⟩
            have tt : tch P w N nt t = false := by
              unfold tch
              rw [li]
              by_cases a : 1 ≤ kd P i
              · rw [decide_eq_false (fun z => k14 ⟨a, z⟩), Bool.and_false, Bool.false_and]
              · rw [decide_eq_false a, Bool.and_false, Bool.false_and, Bool.false_and]
            rw [tt] at hr
            exact hr
  obtain ⟨σ2, G2, b2, Q2, e2, h2, hq2⟩ := thr nt 0 (fun _ => False) σ b G (by omega) ⟨⟨fun _ _ _ _ _ => rfl, fun _ _ => rfl, rfl⟩, fun z => ⟨fun _ => by rw [hT], fun _ y => y.elim⟩, by rw [hT]; exact hcn, hg, fun v hv => absurd hv (Nat.not_lt_zero v)⟩
  refine ⟨σ2, G2, b2, le_X0_see en (d + 6) _ _ _ _ ?_, h2.1, rcRel_same h2.2.1 (fun z => ?_), h2.2.2.1, h2.2.2.2.1⟩
  · have er : (mS σ 71 F N b G).2.2 71 7 = p + 1 := xb_R hB
    rw [gd_true (xb_lm hB), er, show p + 1 - 1 = p from rfl, gdP lp5, nm_eq]
    exact e2
  · rw [hq2]
    exact ⟨fun y => y.elim False.elim (fun ⟨t, u, _, h2, h3, y⟩ => ⟨t, u, h3, h2, y⟩), fun ⟨t, u, h3, h2, y⟩ => Or.inr ⟨t, u, Nat.zero_le _, h2, h3, y⟩⟩
end SE

