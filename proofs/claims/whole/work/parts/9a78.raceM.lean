/-! ALL TURNS, the model's side: findings in a state. -/
abbrev rcN (T0 : fI) (sv : Int32) (Q : Nat → Prop) (T : fI) : Prop := ∀ z, (¬ T0 z = -2 ∨ ¬ Q z → T z = T0 z) ∧ (T0 z = -2 → Q z → T z = sv)
abbrev fMd (σ σ' : qS) (F F' : fI) : Prop := (∀ c, c ≠ 223 → c ≠ 224 → σ'.1 c = σ.1 c) ∧ σ'.2 = σ.2 ∧ ∀ j, j ≠ 62 → F' j = F j
section MFi
variable {en : pN} {d w nc nl nt n vv t k i l u : Nat} {σ : qS} {P : Nat → fI} {F s y g N T0 T g0 : fI} {D : Int64} {τ : qS} {Q : Nat → Prop} {sv : Int32}
theorem fMd.tr {σ σ' σ'' : qS} {F F' F'' : fI} (h : fMd σ σ' F F') (g : fMd σ' σ'' F' F'') : fMd σ σ'' F F'' := ⟨fun c h1 h2 => (g.1 c h1 h2).trans (h.1 c h1 h2), g.2.1.trans h.2.1, fun j hj => (g.2.2 j hj).trans (h.2.2 j hj)⟩
theorem fMd.MB {σ' : qS} {F' : fI} (hB : MB σ vv P nc nl nt n) (h : fMd σ σ' F F') : MB σ' vv P nc nl nt n := mb_cg (fun a h1 h2 h3 => h.1 a (by omega) (by omega)) hB
theorem fMd.MF {σ' : qS} {F' : fI} (hF : MF F w vv nc nl nt) (h : fMd σ σ' F F') : MF F' w vv nc nl nt := ⟨by rw [h.2.2 12 (by decide)]; exact hF.1, by rw [h.2.2 16 (by decide)]; exact hF.2.1, by rw [h.2.2 18 (by decide)]; exact hF.2.2.1, by rw [h.2.2 58 (by decide)]; exact hF.2.2.2.1, by rw [h.2.2 59 (by decide)]; exact hF.2.2.2.2⟩
theorem rcN_add {x : Nat} (h : rcN T0 sv Q T) (hs : sv ≠ -2) : rcN T0 sv (fun z => Q z ∨ z = x) (upd T x (if T x = -2 then sv else T x)) := fun z => by
  obtain ⟨h1, h2⟩ := h z
  by_cases q : z = x
  · subst q
    rw [pk_us]
    constructor
    · intro h
      have h := h.resolve_right (fun y => y (Or.inr rfl))
      rw [h1 (Or.inl h), if_neg h]
    · intro h _
      by_cases qq : Q z
      · rw [h2 h qq, if_neg hs]
      · rw [h1 (Or.inr qq), if_pos h]
  · rw [pk_un q]
    exact ⟨fun h => h1 (h.imp id (fun y z => y (Or.inl z))), fun h hq => h2 h (hq.resolve_right q)⟩
theorem rcN_cg {Q' : Nat → Prop} (h : rcN T0 sv Q T) (hq : ∀ z, Q z ↔ Q' z) : rcN T0 sv Q' T := fun z => ⟨fun y => (h z).1 (y.imp id (fun y w => y ((hq z).mp w))), fun y1 y2 => (h z).2 y1 ((hq z).mpr y2)⟩
theorem rg_iff {a b : Nat} (ha : a < 100) (hb : b < 100) : rgM (nI a) (nI b) ↔ (1 ≤ a ∧ a ≤ 4) ∧ (1 ≤ b ∧ b ≤ 4) ∧ (a = 2 ∨ b = 2 ∨ ¬ (a = 1 ↔ b = 1)) := by
  have e : ∀ k c, k < 100 → c < 100 → (nI k = nI c ↔ k = c) := fun k c h1 h2 => iff_of_eq (n_EQ (by omega) (by omega))
  have h1 : (1 : Int32) = nI 1 := rfl
  have h2 : (2 : Int32) = nI 2 := rfl
  have h3 : (3 : Int32) = nI 3 := rfl
  have h4 : (4 : Int32) = nI 4 := rfl
  unfold rgM toM
  rw [h1, h2, h3, h4, e a 1 ha (by decide), e a 2 ha (by decide), e a 3 ha (by decide), e a 4 ha (by decide), e b 1 hb (by decide), e b 2 hb (by decide), e b 3 hb (by decide), e b 4 hb (by decide)]
  omega
theorem m_find73 (hB : MB σ vv P nc nl nt n) (hP : PV P nc nl nt n) (hF : MF F w vv nc nl nt) (hR : MR w N s) (ht : t < nt) (hi : i < n) (ho : P 9 i = nI (ob P i)) (ho8 : ob P i < 8) (h224 : σ.1 224 = g0) {v4 : Int32} {r : qR} (hr : L_X12_findIn_138 en d (nI k) (nI t) (nI (100 * vv + i)) v4 (nI (t + 1)) (mM (uI σ 224 (ob P i) (g0 (ob P i) &&& loB N t nl)) F s y g D) = some r) : L_X12_findIn_73 en d (nI k) (nI t) (nI (100 * vv + i)) v4 0 (nI 0) (mM σ F s y g D) = some r := by
  have hl4 := hP.2.1.2
  have ht4 := hP.2.2.1.2
  have hn := hP.2.2.2.1.2
  have hvv := hB.1
  have e16 : (mM σ F s y g D).1 151 16 = nI nl := hF.2.1
  have e166 : (mM σ F s y g D).1 166 (100 * vv + i) = nI (ob P i) := by
    rw [mM_o (by decide) (by decide) (by decide) (by decide), ← ho]
    exact (hB.2.1 i hi).2.1
  have e224 : (mM σ F s y g D).1 224 = g0 := by rw [mM_o (by decide) (by decide) (by decide) (by decide), h224]
  have loop : ∀ (m l : Nat), l + m = nl → L_X12_findIn_73 en d (nI k) (nI t) (nI (100 * vv + i)) v4 (loB N t l) (nI l) (mM σ F s y g D) = some r := by
    intro m
    induction m with
    | zero =>
      intro l hl
      obtain rfl : l = nl := by omega
      refine le_X12_findIn_73 en _ _ _ _ _ _ _ _ _ ?_
      rw [e16, if_pos (Int32.le_refl _), gd_true (n_in (by omega) (by decide)), n_cl (by omega), e166, gd_true (n_in (by omega) (by decide)), n_cl (by omega), e224, nm_eq, n_ar, mM_wo (by decide) (by decide) (by decide) (by decide)]
      exact hr
    | succ m ih =>
      intro l hl
      refine le_X12_findIn_73 en _ _ _ _ _ _ _ _ _ ?_
      have es : (mM σ F s y g D).1 187 (36 + l) = N (40 + l) + 1 := mr_ow hR (by omega)
      have el : loB N t (l + 1) = if N (40 + l) = nI t then loB N t l ||| ((1 : Int32) <<< (nI l &&& 31)) else loB N t l := rfl
      rw [e16, if_neg (by rw [n_LE (by omega) (by omega)]; omega), n_al, gd_true (n_in (by omega) (by decide)), n_cl (by omega), es, n_ar (o := l)]
      have nx := ih (l + 1) (by omega)
      rw [el] at nx
      by_cases q : N (40 + l) = nI t
      · rw [if_pos q] at nx
        rw [if_neg (fun z => z (by rw [q])), nm_eq]
        exact nx
      · rw [if_neg q] at nx
        rw [if_pos (fun z => q (by have := congrArg (· - (1 : Int32)) z; simpa [Int32.add_sub_cancel] using this)), Int32.or_zero]
        exact nx
  exact loop nl 0 (by omega)
theorem cls_iff {P : Nat → fI} {i j : Nat} (hi : 1 ≤ kd P i ∧ kd P i ≤ 4) (hj : 1 ≤ kd P j ∧ kd P j ≤ 4) (h7 : P 7 i = nI (kd P i)) (h7' : P 7 j = nI (kd P j)) : cls P i j = (decide (rgM (P 7 i) (P 7 j)) && decide (P 9 i = P 9 j) && !(vol P (ob P i))) := by
  have e : decide (rgM (P 7 i) (P 7 j)) = (decide (kd P i = 2) || decide (kd P j = 2) || (decide (kd P i = 1) != decide (kd P j = 1))) := by
    rw [h7, h7', decide_eq_decide.mpr (rg_iff (by omega) (by omega))]
    by_cases q : kd P i = 2
    · rw [decide_eq_true q, decide_eq_true ⟨hi, hj, Or.inl q⟩]; rfl
    rw [decide_eq_false q]
    by_cases q2 : kd P j = 2
    · rw [decide_eq_true q2, decide_eq_true ⟨hi, hj, Or.inr (Or.inl q2)⟩]; rfl
    rw [decide_eq_false q2]
    by_cases q3 : kd P i = 1
    · by_cases q4 : kd P j = 1
      · rw [decide_eq_true q3, decide_eq_true q4, decide_eq_false (by omega)]; rfl
      · rw [decide_eq_true q3, decide_eq_false q4, decide_eq_true (by omega)]; rfl
    · by_cases q4 : kd P j = 1
      · rw [decide_eq_false q3, decide_eq_true q4, decide_eq_true (by omega)]; rfl
      · rw [decide_eq_false q3, decide_eq_false q4, decide_eq_false (by omega)]; rfl
  unfold cls
  rw [e]
  cases decide (P 9 i = P 9 j) <;> cases vol P (ob P i) <;> simp
theorem m_find138 (hP : PV P nc nl nt n) (hS : SV P w nc nl nt n N) (hR : MR w N s) (hw2 : w ≤ 2) (ht : t < nt) (htc : tch P w N nt t = true) (h4 : N (4 + t) = nI i) (hi : i < n) (hsv : (nI k : Int32) ≠ -2) :
    ∀ (m u : Nat) (σ : qS) (F g : fI) (Q : Nat → Prop), u + m = nt → t < u → MB σ vv P nc nl nt n → MF F w vv nc nl nt → rcN T0 (nI k) Q (σ.1 223) → ∃ (σ' : qS) (F' g' : fI), (∀ r, L_X12_findIn_2 en (d + 6) (nI k) (nI (t + 1)) (mM σ' F' s y g' D) = some r → L_X12_findIn_138 en (d + 6) (nI k) (nI t) (nI (100 * vv + i)) (P 7 i) (nI u) (mM σ F s y g D) = some r) ∧ fMd σ σ' F F' ∧ σ'.1 224 = σ.1 224 ∧ rcN T0 (nI k) (fun z => Q z ∨ ∃ v, u ≤ v ∧ v < nt ∧ rcT P w N nt t v z = true) (σ'.1 223) := by
  have ht4 := hP.2.2.1.2
  have hn := hP.2.2.2.1.2
  have hc8 := hP.1.2
  have hl4 := hP.2.1.2
  have hwd := wid_ge (w := w)
  have hLi := hP.2.2.2.2.1 i hi
  have eli : lnS N t = i := by show clp (N (4 + t)) = i; rw [h4]; exact n_clp (by omega)
  have htc' := htc
  unfold tch at htc'
  rw [eli, Bool.and_eq_true, Bool.and_eq_true, Bool.and_eq_true, decide_eq_true_eq, decide_eq_true_eq, decide_eq_true_eq, decide_eq_true_eq] at htc'
  obtain ⟨⟨⟨-, k1⟩, k4⟩, -⟩ := htc'
  obtain ⟨o1, o2⟩ := hLi.2.2.1 k1 k4
  intro m
  induction m with
  | zero =>
    intro u σ F g Q hu htu hB hF hQ
    obtain rfl : u = nt := by omega
    refine ⟨σ, F, g, fun r hh => le_X12_findIn_138 en _ _ _ _ _ _ _ _ ?_, ⟨fun _ _ _ => rfl, rfl, fun _ _ => rfl⟩, rfl, rcN_cg hQ fun z => ⟨Or.inl, fun w => w.elim id (fun ⟨v, a, b, _⟩ => absurd b (by omega))⟩⟩
    rw [show (mM σ F s y g D).1 151 18 = nI u from hF.2.2.1, if_pos (Int32.le_refl _), n_ar]
    exact hh
  | succ m ih =>
    intro u σ F g Q hu htu hB hF hQ
    have hvv := hB.1
    have hun : u < nt := by omega
    have es : (mM σ F s y g D).1 187 u = N u := by
      show s u = _
      rw [hR u (by omega)]
      exact if_pos (by omega)
    have start : ∀ r, (if ¬ N u = (1 : Int32) then L_X12_findIn_138 en (d + 6) (nI k) (nI t) (nI (100 * vv + i)) (P 7 i) (nI (u + 1)) (mM σ F s y g D) else bI (qev en (d + 6) 312 [.ref 151, .int (nI u)] (mM σ F s y g D)) (fun w4 s5 => if w4 ≤ (0 : Int32) then L_X12_findIn_138 en (d + 6) (nI k) (nI t) (nI (100 * vv + i)) (P 7 i) (nI (u + 1)) s5 else bI (qev en (d + 6) 303 [.ref 151, .int (nI u)] s5) (fun w8 s9 => gd (p_inB w8 400 = true) (bI (qev en (d + 6) 347 [.int (P 7 i), .int (s9.1 164 w8.toNatClampNeg)] s9) (fun w12 s13 => if w12 = (0 : Int32) then L_X12_findIn_213 en (d + 6) (nI k) (nI t) (nI (100 * vv + i)) (P 7 i) (nI u) w8 (0 : Int32) s13 else gd (p_inB (nI (100 * vv + i)) 400 = true) (if ¬ (s13.1 166 (nI (100 * vv + i)).toNatClampNeg) = (s13.1 166 w8.toNatClampNeg) then L_X12_findIn_213 en (d + 6) (nI k) (nI t) (nI (100 * vv + i)) (P 7 i) (nI u) w8 (0 : Int32) s13 else L_X12_findIn_213 en (d + 6) (nI k) (nI t) (nI (100 * vv + i)) (P 7 i) (nI u) w8 (1 : Int32) s13)))))) = some r → L_X12_findIn_138 en (d + 6) (nI k) (nI t) (nI (100 * vv + i)) (P 7 i) (nI u) (mM σ F s y g D) = some r := by
      intro r hh
      refine le_X12_findIn_138 en _ _ _ _ _ _ _ _ ?_
      rw [show (mM σ F s y g D).1 151 18 = nI nt from hF.2.2.1, if_neg (by rw [n_LE (by omega) (by omega)]; omega), Int32.zero_add, gd_true (n_in (by omega) (by decide)), n_cl (by omega), es, n_ar]
      exact hh
    -- nothing of u: on to the next
    have skip : (∀ z, rcT P w N nt t u z = false) → ∀ (F1 g1 : fI), (∀ j, j ≠ 62 → F1 j = F j) → (∀ r, L_X12_findIn_138 en (d + 6) (nI k) (nI t) (nI (100 * vv + i)) (P 7 i) (nI (u + 1)) (mM σ F1 s y g1 D) = some r → L_X12_findIn_138 en (d + 6) (nI k) (nI t) (nI (100 * vv + i)) (P 7 i) (nI u) (mM σ F s y g D) = some r) → ∃ (σ' : qS) (F' g' : fI), (∀ r, L_X12_findIn_2 en (d + 6) (nI k) (nI (t + 1)) (mM σ' F' s y g' D) = some r → L_X12_findIn_138 en (d + 6) (nI k) (nI t) (nI (100 * vv + i)) (P 7 i) (nI u) (mM σ F s y g D) = some r) ∧ fMd σ σ' F F' ∧ σ'.1 224 = σ.1 224 ∧ rcN T0 (nI k) (fun z => Q z ∨ ∃ v, u ≤ v ∧ v < nt ∧ rcT P w N nt t v z = true) (σ'.1 223) := by
      intro hno F1 g1 hF1 hs
      have f1 : fMd σ σ F F1 := ⟨fun _ _ _ => rfl, rfl, hF1⟩
      obtain ⟨σ', F', g', a1, a2, a3, a4⟩ := ih (u + 1) σ F1 g1 Q (by omega) (by omega) hB (fMd.MF hF f1) hQ
      refine ⟨σ', F', g', fun r hh => hs r (a1 r hh), f1.tr a2, a3, rcN_cg a4 fun z => ⟨fun y => y.imp id (fun ⟨v, b1, b2, b3⟩ => ⟨v, by omega, b2, b3⟩), fun y => y.imp id (fun ⟨v, b1, b2, b3⟩ => ⟨v, ?_, b2, b3⟩)⟩⟩
      by_cases q : v = u
      · rw [q, hno z] at b3; cases b3
      · omega
    by_cases h1 : N u = 1
    · obtain ⟨⟨j, hj, h4j, -⟩, -⟩ := sv_run (hS.1.1 u hun) h1
      have elj : lnS N u = j := by show clp (N (4 + u)) = j; rw [h4j]; exact n_clp (by omega)
      have hLj := hP.2.2.2.2.1 j hj
      obtain ⟨F1, g1, c1, c2⟩ := m_choices (en := en) (d := d) (y := y) (g := g) (D := D) hB hP hS hF hR hw2 hun
      rw [if_neg (fun z => z h1), c1, bI_some] at start
      have f1 : fMd σ σ F F1 := ⟨fun _ _ _ => rfl, rfl, c2⟩
      have hF1 := fMd.MF hF f1
      have cle := ch_le hP hS hun
      by_cases hc : chs P w N u nt = 0
      · refine skip (fun z => ?_) F1 g1 c2 (fun r hh => start r ?_)
        · unfold rcT tch
          rw [decide_eq_false (show ¬ 0 < chs P w N u nt by omega)]
          simp
        · rw [hc, if_pos (show nI 0 ≤ (0 : Int32) from Int32.le_refl _)]
          exact hh
      · have e164 : (mM σ F1 s y g1 D).1 164 (nI (100 * vv + j)).toNatClampNeg = P 7 j := by
          rw [mM_o (by decide) (by decide) (by decide) (by decide), n_cl (by omega)]
          exact (hB.2.1 j hj).1
        have e166 : ∀ x, x < n → (mM σ F1 s y g1 D).1 166 (nI (100 * vv + x)).toNatClampNeg = P 9 x := fun x hx => by
          rw [mM_o (by decide) (by decide) (by decide) (by decide), n_cl (by omega)]
          exact (hB.2.1 x hx).2.1
        rw [if_neg (by rw [show (0 : Int32) = nI 0 from rfl, n_LE (by omega) (by omega)]; omega), m_line (d := d + 5) hF1 hR (by omega) hvv h4j (by omega), bI_some, gd_true (n_in (by omega) (by decide)), e164, m_racing (d := d + 4), bI_some, gd_true (n_in (by omega) (by decide)), e166 i hi, e166 j hj] at start
        have l213 : ∀ r, L_X12_findIn_138 en (d + 6) (nI k) (nI t) (nI (100 * vv + i)) (P 7 i) (nI (u + 1)) (mM σ F1 s y g1 D) = some r → L_X12_findIn_213 en (d + 6) (nI k) (nI t) (nI (100 * vv + i)) (P 7 i) (nI u) (nI (100 * vv + j)) 0 (mM σ F1 s y g1 D) = some r := by
          intro r hh
          refine le_X12_findIn_213 en _ _ _ _ _ _ _ _ _ _ ?_
          rw [if_pos rfl, n_ar]
          exact hh
        by_cases hrg : rgM (P 7 i) (P 7 j)
        · have hkj : 1 ≤ kd P j ∧ kd P j ≤ 4 := by
            have := hrg
            rw [hLi.1.1, hLj.1.1] at this
            exact ((rg_iff (by have := hLi.1.2; omega) (by have := hLj.1.2; omega)).mp this).2.1
          have htu2 : tch P w N nt u = true := by
            unfold tch
            rw [elj, decide_eq_true h1, decide_eq_true hkj.1, decide_eq_true hkj.2, decide_eq_true (show 0 < chs P w N u nt by omega)]
            rfl
          have erc : ∀ z, rcT P w N nt t u z = ((decide (P 9 i = P 9 j) && !(vol P (ob P i))) && decide (z = rix i j)) := by
            intro z
            unfold rcT
            rw [htc, htu2, eli, elj, cls_iff ⟨k1, k4⟩ hkj hLi.1.1 hLj.1.1, decide_eq_true hrg]
            simp
          rw [decide_eq_true hrg, if_neg (show ¬ bt true = (0 : Int32) by decide)] at start
          by_cases h9 : P 9 i = P 9 j
          · rw [if_neg (fun z => z h9)] at start
            have e155 : (mM σ F1 s y g1 D).1 155 (ob P i) = bt (vol P (ob P i)) := by
              rw [mM_o (by decide) (by decide) (by decide) (by decide)]
              exact (hB.2.2.1 (ob P i) o2).2
            have s213 : ∀ r, (if ¬ bt (vol P (ob P i)) = (0 : Int32) then L_X12_findIn_138 en (d + 6) (nI k) (nI t) (nI (100 * vv + i)) (P 7 i) (nI (u + 1)) (mM σ F1 s y g1 D) else if nI j ≤ nI i then L_X12_findIn_283 en (d + 6) (nI k) (nI t) (nI (100 * vv + i)) (P 7 i) (nI u) (nI (100 * j + i)) (mM σ F1 s y g1 D) else L_X12_findIn_283 en (d + 6) (nI k) (nI t) (nI (100 * vv + i)) (P 7 i) (nI u) (nI (100 * i + j)) (mM σ F1 s y g1 D)) = some r → L_X12_findIn_138 en (d + 6) (nI k) (nI t) (nI (100 * vv + i)) (P 7 i) (nI u) (mM σ F s y g D) = some r := by
              intro r hh
              refine start r (le_X12_findIn_213 en _ _ _ _ _ _ _ _ _ _ ?_)
              have e59 : (mM σ F1 s y g1 D).1 151 59 = nI vv := hF1.2.2.2.2
              rw [if_neg (by decide), gd_true (n_in (by omega) (by decide)), e166 i hi, o1, gd_true (n_in (by omega) (by decide)), n_cl (by omega), e155, e59, n_ml, nm_eq, nm_eq, n_sub (by omega), n_sub (by omega), show 100 * vv + i - 100 * vv = i by omega, show 100 * vv + j - 100 * vv = j by omega, n_ml, n_ml, nI_add, nI_add, n_ar]
              exact hh
            cases hv : vol P (ob P i) with
            | true =>
              refine skip (fun z => by rw [erc, hv]; simp) F1 g1 c2 (fun r hh => s213 r ?_)
              rw [hv, if_pos (by decide)]
              exact hh
            | false =>
              -- a race
              have sr : ∀ r, L_X12_findIn_283 en (d + 6) (nI k) (nI t) (nI (100 * vv + i)) (P 7 i) (nI u) (nI (rix i j)) (mM σ F1 s y g1 D) = some r → L_X12_findIn_138 en (d + 6) (nI k) (nI t) (nI (100 * vv + i)) (P 7 i) (nI u) (mM σ F s y g D) = some r := by
                intro r hh
                refine s213 r ?_
                rw [hv, if_neg (fun z => z rfl)]
                unfold rix at hh
                by_cases q : j ≤ i
                · rw [if_pos (by rw [n_LE (by omega) (by omega)]; exact q), show 100 * j + i = 100 * min i j + max i j by rw [Nat.min_eq_right q, Nat.max_eq_left q]]
                  exact hh
                · rw [if_neg (by rw [n_LE (by omega) (by omega)]; exact q), show 100 * i + j = 100 * min i j + max i j by rw [Nat.min_eq_left (by omega), Nat.max_eq_right (by omega)]]
                  exact hh
              have hix : rix i j < 10000 := by
                show 100 * min i j + max i j < 10000
                have := Nat.min_le_left i j
                have : max i j < 100 := Nat.max_lt.mpr ⟨by omega, by omega⟩
                omega
              generalize rix i j = ix at sr hix erc
              have e223 : (mM σ F1 s y g1 D).1 223 = σ.1 223 := mM_o (by decide) (by decide) (by decide) (by decide)
              let v' : Int32 := if σ.1 223 ix = -2 then nI k else σ.1 223 ix
              let σ2 : qS := uI σ 223 ix v'
              have sr2 : ∀ r, L_X12_findIn_138 en (d + 6) (nI k) (nI t) (nI (100 * vv + i)) (P 7 i) (nI (u + 1)) (mM σ2 F1 s y g1 D) = some r → L_X12_findIn_138 en (d + 6) (nI k) (nI t) (nI (100 * vv + i)) (P 7 i) (nI u) (mM σ F s y g D) = some r := by
                intro r hh
                have l314 : ∀ v, v = v' → L_X12_findIn_314 en (d + 6) (nI k) (nI t) (nI (100 * vv + i)) (P 7 i) (nI u) (nI ix) v (mM σ F1 s y g1 D) = some r := by
                  intro v hv
                  refine le_X12_findIn_314 en _ _ _ _ _ _ _ _ _ _ ?_
                  rw [gd_true (n_in (by omega) (by decide)), n_cl (by omega), nm_eq, n_ar, mM_wo (by decide) (by decide) (by decide) (by decide), hv]
                  exact hh
                refine sr r (le_X12_findIn_283 en _ _ _ _ _ _ _ _ _ ?_)
                rw [gd_true (n_in (by omega) (by decide)), n_cl (by omega), e223]
                by_cases q : σ.1 223 ix = -2
                · rw [if_neg (fun z => z q)]
                  exact l314 _ (if_pos q).symm
                · rw [if_pos q]
                  exact l314 _ (if_neg q).symm
              have f2 : fMd σ σ2 F F1 := ⟨fun c h1 _ => uI_ne h1, rfl, c2⟩
              have hQ2 : rcN T0 (nI k) (fun z => Q z ∨ z = ix) (σ2.1 223) := by
                have e : σ2.1 223 = upd (σ.1 223) ix v' := uI_row
                rw [e]
                exact rcN_add hQ hsv
              obtain ⟨σ', F', g', a1, a2, a3, a4⟩ := ih (u + 1) σ2 F1 g1 _ (by omega) (by omega) (fMd.MB hB f2) hF1 hQ2
              refine ⟨σ', F', g', fun r hh => sr2 r (a1 r hh), f2.tr a2, a3.trans (uI_ne (by decide)), rcN_cg a4 fun z => ?_⟩
              have ez : rcT P w N nt t u z = true ↔ z = ix := by rw [erc, h9, hv]; simp
              constructor
              · rintro ((h | h) | ⟨v, b1, b2, b3⟩)
                · exact Or.inl h
                · exact Or.inr ⟨u, Nat.le_refl _, hun, ez.mpr h⟩
                · exact Or.inr ⟨v, by omega, b2, b3⟩
              · rintro (h | ⟨v, b1, b2, b3⟩)
                · exact Or.inl (Or.inl h)
                · by_cases q : v = u
                  · rw [q] at b3; exact Or.inl (Or.inr (ez.mp b3))
                  · exact Or.inr ⟨v, by omega, b2, b3⟩
          · refine skip (fun z => by rw [erc, decide_eq_false h9]; simp) F1 g1 c2 (fun r hh => start r ?_)
            rw [if_pos h9]
            exact l213 r hh
        · refine skip (fun z => ?_) F1 g1 c2 (fun r hh => start r ?_)
          · cases hc2 : rcT P w N nt t u z with
            | false => rfl
            | true =>
              exfalso
              unfold rcT at hc2
              rw [Bool.and_eq_true, Bool.and_eq_true, Bool.and_eq_true] at hc2
              obtain ⟨⟨⟨-, t2⟩, c2⟩, -⟩ := hc2
              unfold tch at t2
              rw [elj, Bool.and_eq_true, Bool.and_eq_true, Bool.and_eq_true, decide_eq_true_eq, decide_eq_true_eq, decide_eq_true_eq] at t2
              rw [eli, elj, cls_iff ⟨k1, k4⟩ ⟨t2.1.1.2, t2.1.2⟩ hLi.1.1 hLj.1.1, decide_eq_false hrg] at c2
              simp at c2
          · rw [decide_eq_false hrg, if_pos (show bt false = (0 : Int32) from rfl)]
            exact l213 r hh
    · refine skip (fun z => ?_) F g (fun _ _ => rfl) (fun r hh => start r ?_)
      · unfold rcT tch
        rw [decide_eq_false h1]
        simp
      · rw [if_pos h1]
        exact hh
end MFi
