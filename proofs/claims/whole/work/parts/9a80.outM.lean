/-! OUTCOMES, the model's side: found or new. -/
def mixP (x y : Int32) : Int32 := (((31 : Int32) * x) + y) ^^^ ((((31 : Int32) * x) + y).toUInt32 >>> ((13 : Int32).toUInt32 &&& Int32.toUInt32 31)).toInt32
def mixQ (x y : Int32) : Int32 := ((37 : Int32) * x) + y
def hsO (f : fI) : Nat := (finM (mxG mixQ f 8 44 (mxG mixP f 24 12 7))).toBitVec.toNat / 131072
theorem hsO_cg {f g : fI} (e : ∀ i, 12 ≤ i → i < 36 → f i = g i) (e2 : ∀ i, 44 ≤ i → i < 52 → f i = g i) : hsO f = hsO g := by
  unfold hsO
  rw [mxG_cg 24 12 7 (fun i h1 h2 => e i h1 (by omega)), mxG_cg 8 44 _ (fun i h1 h2 => e2 i h1 (by omega))]
theorem hsO_lt {f : fI} : hsO f < 32768 := by
  unfold hsO
  have h := (finM (mxG mixQ f 8 44 (mxG mixP f 24 12 7))).toBitVec.isLt
  omega
theorem hsO_e {f : fI} : nI ((finM (mxG mixQ f 8 44 (mxG mixP f 24 12 7))).toBitVec.toNat / 131072) = nI (hsO f) := by
  unfold hsO
  rfl
theorem hsO_0 {f : fI} : (hsO f + 0) % 32768 = hsO f := by
  have h := @hsO_lt f
  generalize hsO f = x at h
  omega
/-- outcomes are told: L the states -/
def ROM (s : qS) (L : List Nat) (so : Nat → Nat) (R : Nat → fI) : Prop := s.1 151 115 = nI L.length ∧ (∀ j, j < L.length → s.1 221 j = nI (L.getD j 0) ∧ s.1 225 j = nI (so (L.getD j 0))) ∧ TB (s.1 222) 32768 L.length (fun j => hsO (R (L.getD j 0)))
abbrev smO (so : Nat → Nat) (R : Nat → fI) (L : List Nat) (z : Nat) (f : fI) (i : Nat) : Prop := so (L.getD i 0) = z ∧ (∀ x, 12 ≤ x → x < 36 → R (L.getD i 0) x = f x) ∧ ∀ x, 44 ≤ x → x < 52 → R (L.getD i 0) x = f x
section OM
variable {en : pN} {d n W lim k z : Nat} {s s' : qS} {R : Nat → fI} {so : Nat → Nat} {L : List Nat} {f : fI} {r : qR} {v1 v2 v3 : Int32}
theorem m_isOutcome {i q : Nat} {g : fI} (h60 : s.1 151 60 = nI W) (hW : 52 ≤ W ∧ W ≤ 213) (hs : s.1 187 = f) (hq : q * W + W ≤ 1600000) (hg : ∀ j, j < W → s.1 210 (q * W + j) = g j) (hi : i ≤ 20000) (h221 : s.1 221 i = nI q) {zi : Nat} (h225 : s.1 225 i = nI zi) (hzi : zi ≤ 2) (hz : z ≤ 2) (h359 : qev en (d + 1) 359 [.ref 151] s = some (some (.int (nI z)), s)) : ∃ rb : Bool, qev en (d + 2) 360 [.ref 151, .int (nI i)] s = some (some (.int (bt rb)), s) ∧ (rb = true ↔ zi = z ∧ (∀ x, 12 ≤ x → x < 36 → g x = f x) ∧ ∀ x, 44 ≤ x → x < 52 → g x = f x) := by
  have l85 : ∀ (m j : Nat) (b : Bool), j + m = 8 → ∃ rb : Bool, L_X12_isOutcome_85 en (d + 1) (nI (q * W)) (bt b) (nI j) s = some (some (.int (bt rb)), s) ∧ (rb = true ↔ b = true ∧ ∀ x, 44 + j ≤ x → x < 52 → g x = f x) := by
    intro m
    induction m with
    | zero =>
      intro j b hj
      obtain rfl : j = 8 := by omega
      refine ⟨b, le_X12_isOutcome_85 en _ _ _ _ _ _ ?_, ⟨fun h => ⟨h, fun x h1 h2 => by omega⟩, And.left⟩⟩
      rw [if_pos (show (8 : Int32) ≤ nI 8 from Int32.le_refl _), gd_true (by cases b <;> decide)]
    | succ m ih =>
      intro j b hj
      cases b with
      | false =>
        refine ⟨false, le_X12_isOutcome_85 en _ _ _ _ _ _ ?_, ⟨fun h => (by cases h), fun h => (by cases h.1)⟩⟩
        rw [if_neg (by rw [show (8 : Int32) = nI 8 from rfl, n_LE (by omega) (by omega)]; omega), if_pos (show bt false = (0 : Int32) from rfl), gd_true (by decide)]
      | true =>
        have e210 : s.1 210 (q * W + 44 + j) = g (44 + j) := by rw [Nat.add_assoc]; exact hg _ (by omega)
        have base : ∀ r, (if ¬ g (44 + j) = f (44 + j) then L_X12_isOutcome_85 en (d + 1) (nI (q * W)) (bt false) (nI (j + 1)) s else L_X12_isOutcome_85 en (d + 1) (nI (q * W)) (bt true) (nI (j + 1)) s) = some r → L_X12_isOutcome_85 en (d + 1) (nI (q * W)) (bt true) (nI j) s = some r := by
          intro r hh
          refine le_X12_isOutcome_85 en _ _ _ _ _ _ ?_
          rw [if_neg (by rw [show (8 : Int32) = nI 8 from rfl, n_LE (by omega) (by omega)]; omega), if_neg (show ¬ bt true = (0 : Int32) by decide), n_ar, nI_add, n_al, gd_true (n_in (by omega) (by decide)), gd_true (n_in (by omega) (by decide)), n_cl (by omega), n_cl (by omega), e210, hs, n_ar]
          exact hh
        by_cases e : g (44 + j) = f (44 + j)
        · rw [if_neg (fun z => z e)] at base
          obtain ⟨rb, r1, r2⟩ := ih (j + 1) true (by omega)
          refine ⟨rb, base _ r1, r2.trans ⟨fun h => ⟨rfl, fun x h1 h2 => ?_⟩, fun h => ⟨rfl, fun x h1 h2 => h.2 x (by omega) h2⟩⟩⟩
          by_cases q : x = 44 + j
          · rw [q]; exact e
          · exact h.2 x (by omega) h2
        · rw [if_pos e] at base
          obtain ⟨rb, r1, r2⟩ := ih (j + 1) false (by omega)
          refine ⟨rb, base _ r1, r2.trans ⟨fun h => (by cases h.1), fun h => absurd (h.2 (44 + j) (by omega) (by omega)) e⟩⟩
  have l34 : ∀ (m j : Nat) (b : Bool), j + m = 24 → ∃ rb : Bool, L_X12_isOutcome_34 en (d + 1) (nI (q * W)) (bt b) (nI j) s = some (some (.int (bt rb)), s) ∧ (rb = true ↔ b = true ∧ (∀ x, 12 + j ≤ x → x < 36 → g x = f x) ∧ ∀ x, 44 ≤ x → x < 52 → g x = f x) := by
    intro m
    induction m with
    | zero =>
      intro j b hj
      obtain rfl : j = 24 := by omega
      obtain ⟨rb, r1, r2⟩ := l85 8 0 b (by omega)
      refine ⟨rb, le_X12_isOutcome_34 en _ _ _ _ _ _ ?_, r2.trans ⟨fun h => ⟨h.1, fun x h1 h2 => by omega, h.2⟩, fun h => ⟨h.1, h.2.2⟩⟩⟩
      rw [if_pos (show (24 : Int32) ≤ nI 24 from Int32.le_refl _)]
      exact r1
    | succ m ih =>
      intro j b hj
      cases b with
      | false =>
        obtain ⟨rb, r1, r2⟩ := l85 8 0 false (by omega)
        refine ⟨rb, le_X12_isOutcome_34 en _ _ _ _ _ _ ?_, r2.trans ⟨fun h => (by cases h.1), fun h => by cases h.1⟩⟩
        rw [if_neg (by rw [show (24 : Int32) = nI 24 from rfl, n_LE (by omega) (by omega)]; omega), if_pos (show bt false = (0 : Int32) from rfl)]
        exact r1
      | true =>
        have e210 : s.1 210 (q * W + 12 + j) = g (12 + j) := by rw [Nat.add_assoc]; exact hg _ (by omega)
        have base : ∀ r, (if ¬ g (12 + j) = f (12 + j) then L_X12_isOutcome_34 en (d + 1) (nI (q * W)) (bt false) (nI (j + 1)) s else L_X12_isOutcome_34 en (d + 1) (nI (q * W)) (bt true) (nI (j + 1)) s) = some r → L_X12_isOutcome_34 en (d + 1) (nI (q * W)) (bt true) (nI j) s = some r := by
          intro r hh
          refine le_X12_isOutcome_34 en _ _ _ _ _ _ ?_
          rw [if_neg (by rw [show (24 : Int32) = nI 24 from rfl, n_LE (by omega) (by omega)]; omega), if_neg (show ¬ bt true = (0 : Int32) by decide), n_ar, nI_add, n_al, gd_true (n_in (by omega) (by decide)), gd_true (n_in (by omega) (by decide)), n_cl (by omega), n_cl (by omega), e210, hs, n_ar]
          exact hh
        by_cases e : g (12 + j) = f (12 + j)
        · rw [if_neg (fun z => z e)] at base
          obtain ⟨rb, r1, r2⟩ := ih (j + 1) true (by omega)
          refine ⟨rb, base _ r1, r2.trans ⟨fun h => ⟨rfl, fun x h1 h2 => ?_, h.2.2⟩, fun h => ⟨rfl, fun x h1 h2 => h.2.1 x (by omega) h2, h.2.2⟩⟩⟩
          by_cases q : x = 12 + j
          · rw [q]; exact e
          · exact h.2.1 x (by omega) h2
        · rw [if_pos e] at base
          obtain ⟨rb, r1, r2⟩ := ih (j + 1) false (by omega)
          refine ⟨rb, base _ r1, r2.trans ⟨fun h => (by cases h.1), fun h => absurd (h.2.1 (12 + j) (by omega) (by omega)) e⟩⟩
  obtain ⟨rb, r1, r2⟩ := l34 24 0 (decide (zi = z)) (by omega)
  refine ⟨rb, le_X12_isOutcome en _ _ _ _ ?_, by rw [r2, decide_eq_true_eq]⟩
  rw [gd_true (n_in (by omega) (by decide)), n_cl (by omega), h221, h60, n_mul, nm_eq, h359, bI_some, h225]
  by_cases e : zi = z
  · rw [if_neg (fun y => y (by rw [e]))]
    rw [decide_eq_true e] at r1
    exact r1
  · rw [if_pos (show ¬ nI zi = nI z by rw [n_EQ (by omega) (by omega)]; exact e)]
    rw [decide_eq_false e] at r1
    exact r1
/-- a new outcome -/
def nwO (s : qS) (L : List Nat) (p z k : Nat) : qS := uI (uI (uI (uI s 225 L.length (nI z)) 221 L.length (nI k)) 151 115 (nI (L.length + 1))) 222 p (nI (L.length + 1))
theorem p15 : (32768 : Nat) = 2 ^ 15 := by decide
theorem m_outcomeOf (hO : ROM s L so R) (h60 : s.1 151 60 = nI W) (hW : 52 ≤ W ∧ W ≤ 213) (hs : s.1 187 = f) (hL : L.length < 20000) (hq : ∀ i, i < L.length → L.getD i 0 * W + W ≤ 1600000) (hg : ∀ i, i < L.length → ∀ j, j < W → s.1 210 (L.getD i 0 * W + j) = R (L.getD i 0) j) (hso : ∀ i, so i ≤ 2) (hz : z ≤ 2) (hk : k < 20000) (h359 : ∀ d, qev en (d + 1) 359 [.ref 151] s = some (some (.int (nI z)), s)) :
    (∃ i, i < L.length ∧ smO so R L z f i ∧ qev en (d + 3) 361 [.ref 151, .int (nI k)] s = some (some (.int (nI i)), s)) ∨
    ((∀ i, i < L.length → ¬ smO so R L z f i) ∧ ∃ p, qev en (d + 3) 361 [.ref 151, .int (nI k)] s = some (some (.int (nI L.length)), nwO s L p z k) ∧ ∀ (R' : Nat → fI) (so' : Nat → Nat), (∀ i, i < L.length → R' (L.getD i 0) = R (L.getD i 0) ∧ so' (L.getD i 0) = so (L.getD i 0)) → R' k = f → so' k = z → ROM (nwO s L p z k) (L ++ [k]) so' R') := by
  obtain ⟨o1, o2, o3⟩ := hO
  have one : ∀ i, i < L.length → ∃ rb : Bool, qev en (d + 2) 360 [.ref 151, .int (nI i)] s = some (some (.int (bt rb)), s) ∧ (rb = true ↔ smO so R L z f i) := fun i hi => m_isOutcome h60 hW hs (hq i hi) (hg i hi) (by omega) (o2 i hi).1 (o2 i hi).2 (hso _) hz (h359 d)
  have hsm : ∀ i, smO so R L z f i → hsO (R (L.getD i 0)) = hsO f := fun i h => hsO_cg h.2.1 h.2.2
  obtain ⟨e, he⟩ := tb_stop (H := hsO f) (same := smO so R L z f) o3 (by omega) (by omega)
  have hp : (hsO f + e) % 32768 < 32768 := Nat.mod_lt _ (by decide)
  have loop : ∀ (m j : Nat), j + m = e → ∀ r, L_X12_outcomeOf_112 en (d + 2) (nI k) (nI ((hsO f + e) % 32768)) s = some r → L_X12_outcomeOf_77 en (d + 2) (nI k) (nI ((hsO f + j) % 32768)) s = some r := by
    intro m
    induction m with
    | zero =>
      intro j hj r hr
      obtain rfl : j = e := by omega
      refine le_X12_outcomeOf_77 en _ _ _ _ _ ?_
      rw [gd_true (n_in hp (by decide)), n_cl (by omega)]
      rcases he.2.2 with z | ⟨i, hi, z, c⟩
      · rw [if_pos z]; exact hr
      · obtain ⟨rb, b1, b2⟩ := one i hi
        rw [if_neg (by rw [z]; exact nz_s (by omega)), z, show nI (i + 1) - (1 : Int32) = nI i from nI_pred i, b1, bI_some, b2.mpr c, if_pos (by decide)]
        exact hr
    | succ m ih =>
      intro j hj r hr
      have hp : (hsO f + j) % 32768 < 32768 := Nat.mod_lt _ (by decide)
      obtain ⟨i, hi, z, c⟩ := he.2.1 j (by omega)
      obtain ⟨rb, b1, b2⟩ := one i hi
      have rf : rb = false := by
        cases rb with
        | false => rfl
        | true => exact absurd (b2.mp rfl) c
      refine le_X12_outcomeOf_77 en _ _ _ _ _ ?_
      rw [gd_true (n_in hp (by decide)), n_cl (by omega), if_neg (by rw [z]; exact nz_s (by omega)), z, show nI (i + 1) - (1 : Int32) = nI i from nI_pred i, b1, bI_some, rf, if_neg (by decide), nm_eq]
      have := nxt_pl (H := hsO f) (e := j) (k := 15) (by decide)
      rw [show (32767 : Int32) = nI (2 ^ 15 - 1) from rfl, p15, this]
      exact ih (j + 1) (by omega) r hr
  have l41 : ∀ (m j : Nat) (x H : Int32), j + m = 8 → mxG mixQ f m (44 + j) x = H → ∀ r, L_X12_outcomeOf_77 en (d + 2) (nI k) (nI ((finM H).toBitVec.toNat / 131072)) s = some r → L_X12_outcomeOf_41 en (d + 2) (nI k) x (nI j) s = some r := by
    intro m
    induction m with
    | zero =>
      intro j x H hj hH r hr
      obtain rfl : j = 8 := by omega
      rw [mxG_0] at hH
      subst hH
      refine le_X12_outcomeOf_41 en _ _ _ _ _ _ ?_
      rw [if_pos (show (8 : Int32) ≤ nI 8 from Int32.le_refl _), nm_eq, u17]
      exact hr
    | succ m ih =>
      intro j x H hj hH r hr
      have h := ih (j + 1) (mixQ x (f (44 + j))) H (by omega) (mxG_s.symm.trans hH) r hr
      refine le_X12_outcomeOf_41 en _ _ _ _ _ _ ?_
      rw [if_neg (by rw [show (8 : Int32) = nI 8 from rfl, n_LE (by omega) (by omega)]; omega), n_al, gd_true (n_in (by omega) (by decide)), n_cl (by omega), hs, nm_eq, n_ar]
      exact h
  have l5 : ∀ (m j : Nat) (x H : Int32), j + m = 24 → mxG mixP f m (12 + j) x = H → ∀ r, L_X12_outcomeOf_41 en (d + 2) (nI k) H (nI 0) s = some r → L_X12_outcomeOf_5 en (d + 2) (nI k) x (nI j) s = some r := by
    intro m
    induction m with
    | zero =>
      intro j x H hj hH r hr
      obtain rfl : j = 24 := by omega
      rw [mxG_0] at hH
      subst hH
      refine le_X12_outcomeOf_5 en _ _ _ _ _ _ ?_
      rw [if_pos (show (24 : Int32) ≤ nI 24 from Int32.le_refl _)]
      exact hr
    | succ m ih =>
      intro j x H hj hH r hr
      have h := ih (j + 1) (mixP x (f (12 + j))) H (by omega) (mxG_s.symm.trans hH) r hr
      refine le_X12_outcomeOf_5 en _ _ _ _ _ _ ?_
      rw [if_neg (by rw [show (24 : Int32) = nI 24 from rfl, n_LE (by omega) (by omega)]; omega), n_al, gd_true (n_in (by omega) (by decide)), n_cl (by omega), hs, nm_eq, nm_eq, n_ar]
      exact h
  have start : ∀ r, L_X12_outcomeOf_112 en (d + 2) (nI k) (nI ((hsO f + e) % 32768)) s = some r → qev en (d + 3) 361 [.ref 151, .int (nI k)] s = some r := by
    intro r hr
    have h := loop e 0 (by omega) r hr
    rw [hsO_0] at h
    exact le_X12_outcomeOf en _ _ _ _ (l5 24 0 7 _ (by omega) rfl r (l41 8 0 _ _ (by omega) rfl r (by rw [hsO_e]; exact h)))
  generalize hP : (hsO f + e) % 32768 = p at hp start
  rcases he.2.2 with zz | ⟨i, hi, zz, c⟩
  · right
    refine ⟨tb_none o3 (by omega) he zz (fun i _ h => hsm i h), p, start _ (le_X12_outcomeOf_112 en _ _ _ _ _ ?_), fun R' so' hRR hRk hsk => ?_⟩
    · rw [hP] at zz
      rw [gd_true (n_in hp (by decide)), n_cl (by omega), if_neg (fun y => y zz), h359 (d + 1), bI_some, o1, gd_true (n_in (by omega) (by decide)), nm_eq, n_cl (by omega), uI_ne (by decide), o1, gd_true (n_in (by omega) (by decide)), nm_eq, n_cl (by omega), uI_ne (by decide), uI_ne (by decide), o1, n_ar, nm_eq, g_I, if_pos ⟨rfl, rfl⟩, nm_eq]
      refine le_X12_outcomeOf_164 en _ _ _ _ ?_
      rw [gd_true (n_in hp (by decide)), n_cl (by omega), g_I, if_pos ⟨rfl, rfl⟩, show nI (L.length + 1) - (1 : Int32) = nI L.length from nI_pred _]
      rfl
    · have r222 : (nwO s L p z k).1 222 = upd (s.1 222) p (nI (L.length + 1)) := by
        unfold nwO
        rw [uI_row, uI_ne (by decide), uI_ne (by decide), uI_ne (by decide)]
      have gd1 : ∀ i, i < L.length → (L ++ [k]).getD i 0 = L.getD i 0 := fun i hi => by
        rw [List.getD_eq_getElem?_getD, List.getD_eq_getElem?_getD, List.getElem?_append_left hi]
      have gd2 : (L ++ [k]).getD L.length 0 = k := by
        rw [List.getD_eq_getElem?_getD, List.getElem?_append_right (Nat.le_refl _), Nat.sub_self]; rfl
      refine ⟨?_, fun j hj => ?_, ?_⟩
      · unfold nwO
        rw [uI_ne (by decide), g_I, if_pos ⟨rfl, rfl⟩, List.length_append]; rfl
      · rw [List.length_append] at hj
        have hj : j < L.length + 1 := hj
        have e1 : (nwO s L p z k).1 221 j = if j = L.length then nI k else s.1 221 j := by
          unfold nwO
          rw [uI_ne (by decide), uI_ne (by decide), uI_row, uI_ne (by decide)]; rfl
        have e2 : (nwO s L p z k).1 225 j = if j = L.length then nI z else s.1 225 j := by
          unfold nwO
          rw [uI_ne (by decide), uI_ne (by decide), uI_ne (by decide), uI_row]; rfl
        rw [e1, e2]
        by_cases q : j = L.length
        · rw [if_pos q, if_pos q, q, gd2, hsk]; exact ⟨rfl, rfl⟩
        · rw [if_neg q, if_neg q, gd1 j (by omega), (hRR j (by omega)).2]; exact o2 j (by omega)
      · rw [r222, List.length_append, ← hP]
        refine tb_hcg (h := fun i => if i = L.length then hsO f else hsO (R (L.getD i 0))) (fun i hi => ?_) (tb_add o3 (by decide) (by omega) he zz)
        have hi : i < L.length + 1 := hi
        by_cases q : i = L.length
        · rw [if_pos q, q, gd2, hRk]
        · rw [if_neg q, gd1 i (by omega), (hRR i (by omega)).1]
  · left
    refine ⟨i, hi, c, start _ (le_X12_outcomeOf_112 en _ _ _ _ _ ?_)⟩
    rw [hP] at zz
    rw [gd_true (n_in hp (by decide)), n_cl (by omega), if_pos (show ¬ s.1 222 p = 0 by rw [zz]; exact nz_s (by omega))]
    refine le_X12_outcomeOf_164 en _ _ _ _ ?_
    rw [gd_true (n_in hp (by decide)), n_cl (by omega), zz, show nI (i + 1) - (1 : Int32) = nI i from nI_pred i]
end OM
