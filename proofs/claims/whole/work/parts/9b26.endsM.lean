/-! CHANCES, the model's side: a drawn run. -/
/-- what drawn runs may change on the model's side -/
abbrev dmF (σ σ' : qS) : Prop := (∀ c, c ≠ 190 → c ≠ 231 → σ'.1 c = σ.1 c) ∧ σ'.2 = σ.2
abbrev dmG (F F' : fI) : Prop := ∀ j, j < 58 ∨ j = 61 ∨ 74 ≤ j → F' j = F j
/-- what the model's picture needs for drawn runs -/
abbrev dmI (P : Nat → fI) (nc nl nt n : Nat) (X : xT) (σ : qS) (F : fI) : Prop := MB σ 2 P nc nl nt n ∧ (F 12 = nI nc ∧ F 16 = nI nl ∧ F 18 = nI nt) ∧ (∀ i, i < xN X → ∀ j, j < wid 0 → σ.1 210 (i * wid 0 + j) = sm 0 (xS X i) j) ∧ ∀ j, j < (outL P 0 nt (xS X) (xN X)).length → σ.1 221 j = nI ((outL P 0 nt (xS X) (xN X)).getD j 0) ∧ σ.1 225 j = nI (soS (xS X ((outL P 0 nt (xS X) (xN X)).getD j 0)) nt)
section CHE
variable {en : pN} {d nc nl nt n t k r m o q u : Nat} {P : Nat → fI} {σ σ' σ'' s : qS} {F F' F'' N sr y g : fI} {D : Int64} {L : Nat → Nat} {X : xT}
theorem dmF.rf : dmF σ σ := ⟨fun _ _ _ => rfl, rfl⟩
theorem dmF.tr (h : dmF σ σ') (g : dmF σ' σ'') : dmF σ σ'' := ⟨fun c a b => (g.1 c a b).trans (h.1 c a b), g.2.trans h.2⟩
theorem dmG.tr (h : dmG F F') (g : dmG F' F'') : dmG F F'' := fun j hj => (g j hj).trans (h j hj)
theorem dmI.fr (h : dmI P nc nl nt n X σ F) (g : dmF σ σ') (hF : dmG F F') : dmI P nc nl nt n X σ' F' := ⟨mb_cg (fun c h1 h2 h3 => g.1 c (by omega) (by omega)) h.1, ⟨by rw [hF 12 (by omega)]; exact h.2.1.1, by rw [hF 16 (by omega)]; exact h.2.1.2.1, by rw [hF 18 (by omega)]; exact h.2.1.2.2⟩, fun i hi j hj => by rw [g.1 210 (by decide) (by decide)]; exact h.2.2.1 i hi j hj, fun j hj => by rw [g.1 221 (by decide) (by decide), g.1 225 (by decide) (by decide)]; exact h.2.2.2 j hj⟩
theorem m_ends8 (hP : PV P nc nl nt n) (hX : XV P 0 nc nl nt n X) (ho : o < (outL P 0 nt (xS X) (xN X)).length) {one oth : Nat} (h1 : one < 2 ^ 30) (h2 : oth < 2 ^ 30) :
    ∀ (u k : Nat) (L : Nat → Nat) (σ : qS) (F sr y g N : fI) (D : Int64), u + k = 201 → dmI P nc nl nt n X σ F → F 58 = nI 0 → F 59 = nI 2 → F 60 = nI (wid 0) → MR 0 N sr → SV P 0 nc nl nt n N → PL nt L → cmpP nt (σ.1 231) L → bdP nt (2 * k) (σ.1 231) → σ.1 232 0 = nI one → σ.1 232 1 = nI oth →
    ∃ (rb : Bool) (σ' : qS) (F' s' y' g' : fI) (D' : Int64), L_X12_endsWith_8 en (d + 7) (nI o) (nI k) (mM σ F sr y g D) = some (some (.int (bt rb)), mM σ' F' s' y' g' D') ∧ dmF σ σ' ∧ dmG F F' ∧ (rb = true ↔ ∃ N1, rnF P nt one oth u k L N = some N1 ∧ eqO nt (xS X (oK P 0 nt X o)) N1) := by
  have ht4 := hP.2.2.1.2
  have hlim := @lim_le 0
  have hxN := hX.1
  have hol := outL_len (P := P) (w := 0) (nt := nt) (S := xS X) (xN X)
  intro u
  induction u with
  | zero =>
    intro k L σ F sr y g N D hk hI h58 h59 h60 hR hS hL hc hb h0 h1'
    refine ⟨false, σ, F, sr, y, g, D, le_X12_endsWith_8 en _ _ _ _ _ ?_, dmF.rf, fun _ _ => rfl, ⟨fun z => (by cases z), fun ⟨_, z, _⟩ => (by cases z)⟩⟩
    rw [if_pos (by rw [show (200 : Int32) = nI 200 from rfl, n_LT (by omega) (by omega)]; omega)]
    rfl
  | succ u ih =>
    intro k L σ F sr y g N D hk hI h58 h59 h60 hR hS hL hc hb h0 h1'
    have n200 : ¬ (200 : Int32) < nI k := by rw [show (200 : Int32) = nI 200 from rfl, n_LT (by omega) (by omega)]; omega
    have er : rnF P nt one oth (u + 1) k L N = match pkF (fun t => chs P 0 N t nt) L nt 0 with
      | none => some N
      | some r => rnF P nt one oth u (k + 1) (if k + 1 = one ∨ k + 1 = oth then lowF nt r L else L) (stp P 0 N (L r) 0 nt) := rfl
    obtain ⟨F1, g1, R1, e315, f1, f66, -, hrow⟩ := m_list (en := en) (d := d) (σ := σ) (F := F) (s := sr) (y := y) (g := g) (D := D) hI.1 hP hS ⟨hI.2.1.1, hI.2.1.2.1, hI.2.1.2.2, h58, h59⟩ hR (by decide)
    have hlen := rdl_len hP hS
    have hbs := bst_bsT (pr := σ.1 231) hP hS nt (Nat.le_refl _)
    rw [bsT_pk hL hc] at hbs
    have hdF1 : dmF σ (uIr σ 190 R1) := ⟨fun c a _ => uIr_ne a, rfl⟩
    have hdG1 : dmG F F1 := fun j hj => f1 j (by omega) (by omega) (by omega)
    have hI1 := hI.fr hdF1 hdG1
    cases hpk : pkF (fun t => chs P 0 N t nt) L nt 0 with
    | none =>
      rw [hpk] at er hbs
      have hnil : (rdl P 0 N nt nt).length = 0 := by
        cases hl : rdl P 0 N nt nt with
        | nil => rfl
        | cons a l =>
          exfalso
          rw [hl] at hbs
          have : ∀ (l : List Nat) (b : Option Nat), (∃ e, b = some e) → ∃ e, bstF (σ.1 231) l b = some e := by
            intro l
            induction l with
            | nil => intro b h; exact h
            | cons c l ihl =>
              intro b ⟨e, he⟩
              refine ihl _ ?_
              split
              · exact ⟨c, rfl⟩
              · exact ⟨e, he⟩
          obtain ⟨e, he⟩ := this l (if ∀ e, (none : Option Nat) = some e → σ.1 231 (e / 10) < σ.1 231 (a / 10) then some a else none) ⟨a, if_pos (fun e h => by cases h)⟩
          have hbs : bstF (σ.1 231) l (if ∀ e, (none : Option Nat) = some e → σ.1 231 (e / 10) < σ.1 231 (a / 10) then some a else none) = none := hbs
          rw [hbs] at he
          cases he
      have hokN : oK P 0 nt X o < xN X := outL_lt _ _ (getD_mem ho)
      have hroom := rm_room (n := xN X) (k := oK P 0 nt X o) (W := wid 0) (by omega) (Or.inl (by decide)) (by decide) hokN
      obtain ⟨q1, q2⟩ := hI1.2.2.2 o ho
      obtain ⟨rb, e360, hrb⟩ := m_isOutcome (en := en) (d := d + 5) (s := mM (uIr σ 190 R1) F1 sr y g1 D) (W := wid 0) (f := sr) (q := oK P 0 nt X o) (g := sm 0 (xS X (oK P 0 nt X o))) (i := o) (z := soS N nt) (zi := soS (xS X (oK P 0 nt X o)) nt) (by rw [mM_F, f1 60 (by decide) (by decide) (by decide)]; exact h60) (by decide) mM_s (by omega) (fun j hj => by rw [mM_o (by decide) (by decide) (by decide) (by decide)]; exact hI1.2.2.1 _ hokN j hj) (by omega) (by rw [mM_o (by decide) (by decide) (by decide) (by decide)]; exact q1) (by rw [mM_o (by decide) (by decide) (by decide) (by decide)]; exact q2) (soF_le nt 0 true) (soF_le nt 0 true) (m_sortOf (w := 0) (vv := 2) (nc := nc) (nl := nl) ⟨hI1.2.1.1, hI1.2.1.2.1, hI1.2.1.2.2, (f1 58 (by decide) (by decide) (by decide)).trans h58, (f1 59 (by decide) (by decide) (by decide)).trans h59⟩ hR ht4)
      have heqO := smO_eqO (w := 0) (nt := nt) (N := N) (S := xS X) (L := outL P 0 nt (xS X) (xN X)) (f := sr) (i := o) hR
      refine ⟨rb, uIr σ 190 R1, F1, sr, y, g1, D, le_X12_endsWith_8 en _ _ _ _ _ ?_, hdF1, hdG1, ?_⟩
      · rw [if_neg n200, e315, bV_some, mM_F, f66, hnil, if_neg (not_not_intro (show nI 0 = (0 : Int32) from rfl)), e360, bI_some, gd_true (by cases rb; exact Or.inl rfl; exact Or.inr rfl)]
      · rw [er, hrb]
        constructor
        · intro z
          exact ⟨N, rfl, heqO.mp z⟩
        · rintro ⟨N1, z, h⟩
          cases z
          exact heqO.mpr h
    | some r =>
      rw [hpk] at er hbs
      have er : rnF P nt one oth (u + 1) k L N = rnF P nt one oth u (k + 1) (if k + 1 = one ∨ k + 1 = oth then lowF nt r L else L) (stp P 0 N (L r) 0 nt) := er
      obtain ⟨-, hr, hcr, -⟩ := pkF_some nt 0 hpk
      rw [Nat.zero_add] at hr
      have hLr := hL.1 r hr
      have hrd : rdS P 0 N (L r) 0 nt := ⟨hLr, Or.inl hcr⟩
      have hbs : bstF (σ.1 231) (rdl P 0 N nt nt) none = some (10 * L r) := hbs
      have hne : (rdl P 0 N nt nt).length ≠ 0 := fun z => by
        have : rdl P 0 N nt nt = [] := List.eq_nil_of_length_eq_zero z
        rw [this] at hbs
        cases hbs
      have s231 : (mM (uIr σ 190 R1) F1 sr y g1 D).1 231 = σ.1 231 := by rw [mM_o (by decide) (by decide) (by decide) (by decide), uIr_ne (by decide)]
      have start : ∀ x, L_X12_endsWith_38 en (d + 7) (nI o) (nI k) (nI (10 * L r)) (nI (rdl P 0 N nt nt).length) (mM (uIr σ 190 R1) F1 sr y g1 D) = some x → L_X12_endsWith_8 en (d + 7) (nI o) (nI k) (mM σ F sr y g D) = some x := fun x hx => by
        refine le_X12_endsWith_8 en _ _ _ _ _ ?_
        rw [if_neg n200, e315, bV_some, mM_F, f66, if_pos (by rw [show (0 : Int32) = nI 0 from rfl, n_EQ (by omega) (by omega)]; exact hne)]
        have := m_best38 (en := en) (d := d + 7) (s := mM (uIr σ 190 R1) F1 sr y g1 D) (v1 := nI o) (v2 := k) (len := (rdl P 0 N nt nt).length) (by omega) (by rw [mM_F]; exact f66) (rdl P 0 N nt nt) 0 none (by omega) (fun j h => by rw [mM_o (by decide) (by decide) (by decide) (by decide), uIr_row, Nat.zero_add]; exact hrow j h) (fun a ha => rdl_lt hP hS ha) (fun a h => by cases h) x
        rw [s231, hbs] at this
        exact this hx
      have h66' : (mM (uIr σ 190 R1) F1 sr y g1 D).1 151 66 ≤ nI (rdl P 0 N nt nt).length := by rw [mM_F, f66]; exact Int32.le_refl _
      by_cases q200 : k = 200
      · have u0 : u = 0 := by omega
        subst u0
        refine ⟨false, uIr σ 190 R1, F1, sr, y, g1, D, start _ (le_X12_endsWith_38 en _ _ _ _ _ _ _ ?_), hdF1, hdG1, ⟨fun z => (by cases z), fun ⟨_, z, _⟩ => (by rw [er] at z; cases z)⟩⟩
        rw [if_pos h66', if_neg (not_not_intro (by rw [q200]; rfl))]
        rfl
      · obtain ⟨r2, e324, F2, s2, y2, g2, D2, rfl, hFE, hR2, -⟩ := m_step (en := en) (d := d + 1) (σ := uIr σ 190 R1) (s := sr) (y := y) (g := g1) (D := D) hI1.1 hP hS ⟨hI1.2.1.1, hI1.2.1.2.1, hI1.2.1.2.2, (f1 58 (by decide) (by decide) (by decide)).trans h58, (f1 59 (by decide) (by decide) (by decide)).trans h59⟩ hR (by decide) hrd (by decide)
        have hS2 := SV_stp hP hS (by decide) hrd (by decide)
        have hG2 : dmG F1 F2 := fun j hj => hFE j (by omega)
        have hI2 := hI1.fr dmF.rf hG2
        obtain ⟨s3, l129, c3, b3, o3, j3⟩ := m_low129 (en := en) (d := d + 7) (v1 := nI o) (s := mM (uIr σ 190 R1) F2 s2 y2 g2 D2) (L := L) (r := r) (B := 2 * k) (one := one) (oth := oth) (a := 10 * L r) (k' := k + 1) ht4 (by rw [mM_F]; exact hI2.2.1.2.2) hL hr (by rw [mM_o (by decide) (by decide) (by decide) (by decide), uIr_ne (by decide)]; exact hc) (by omega) (by rw [mM_o (by decide) (by decide) (by decide) (by decide), uIr_ne (by decide)]; exact hb) (by rw [mM_o (by decide) (by decide) (by decide) (by decide), uIr_ne (by decide)]; exact h0) (by rw [mM_o (by decide) (by decide) (by decide) (by decide), uIr_ne (by decide)]; exact h1') h1 h2 (by omega) (by omega) (by omega)
        have pic : s3 = mM (uIr (uIr σ 190 R1) 231 (s3.1 231)) F2 s2 y2 g2 D2 := by
          refine Prod.ext (funext fun c => ?_) (by rw [j3]; rfl)
          have : mM (uIr (uIr σ 190 R1) 231 (s3.1 231)) F2 s2 y2 g2 D2 = uIr (mM (uIr σ 190 R1) F2 s2 y2 g2 D2) 231 (s3.1 231) := (mM_Ir (by decide) (by decide) (by decide) (by decide)).symm
          rw [this]
          by_cases q : c = 231
          · rw [q, uIr_row]
          · rw [uIr_ne q, o3 c q]
        have hdF3 : dmF (uIr σ 190 R1) (uIr (uIr σ 190 R1) 231 (s3.1 231)) := ⟨fun c _ a => uIr_ne a, rfl⟩
        have hI3 := hI2.fr hdF3 (fun _ _ => rfl)
        obtain ⟨rb, σ4, F4, s4, y4, g4, D4, e1, e2, e3, e4⟩ := ih (k + 1) (if k + 1 = one ∨ k + 1 = oth then lowF nt r L else L) (uIr (uIr σ 190 R1) 231 (s3.1 231)) F2 s2 y2 g2 (stp P 0 N (L r) 0 nt) D2 (by omega) hI3 ((hFE 58 (by omega)).trans ((f1 58 (by decide) (by decide) (by decide)).trans h58)) ((hFE 59 (by omega)).trans ((f1 59 (by decide) (by decide) (by decide)).trans h59)) ((hFE 60 (by omega)).trans ((f1 60 (by decide) (by decide) (by decide)).trans h60)) hR2 hS2 (by
          split
          · exact PL_low hL hr
          · exact hL) (by rw [uIr_row]; exact c3) (by rw [uIr_row]; exact fun t ht => by have := b3 t ht; omega) (by rw [uIr_ne (by decide), uIr_ne (by decide)]; exact h0) (by rw [uIr_ne (by decide), uIr_ne (by decide)]; exact h1')
        refine ⟨rb, σ4, F4, s4, y4, g4, D4, start _ (le_X12_endsWith_38 en _ _ _ _ _ _ _ ?_), (hdF1.tr hdF3).tr e2, (hdG1.tr hG2).tr e3, by rw [er]; exact e4⟩
        have e324' : qev en (d + 7) 324 [.ref 151, .int (nI (L r)), .int (nI 0)] (mM (uIr σ 190 R1) F1 sr y g1 D) = some (none, mM (uIr σ 190 R1) F2 s2 y2 g2 D2) := e324
        rw [if_pos h66', if_pos (by rw [show (200 : Int32) = nI 200 from rfl, n_EQ (by omega) (by omega)]; exact q200), n_m10 (by omega), n_d10 (by omega), show 10 * L r / 10 = L r by omega, show 10 * L r % 10 = 0 by omega, e324', bV_some, show nI k + (1 : Int32) = nI (k + 1) from n_ar]
        refine l129 _ ?_
        rw [pic]
        exact e1
end CHE
