/-! ROWS of the class: each kept once. r0: the object, D its data, S where each row stands, T its table of 2^k places. -/
/-- a mixing of values from place j on, m of them -/
def mxG {α : Type} (mix : α → α → α) (g : Nat → α) : Nat → Nat → α → α
  | 0, _, x => x
  | m + 1, j, x => mxG mix g m (j + 1) (mix x (g j))
theorem mxG_s {α : Type} {mix : α → α → α} {g : Nat → α} {m j : Nat} {x : α} : mxG mix g (m + 1) j x = mxG mix g m (j + 1) (mix x (g j)) := rfl
theorem mxG_0 {α : Type} {mix : α → α → α} {g : Nat → α} {j : Nat} {x : α} : mxG mix g 0 j x = x := rfl
theorem mxG_cg {α : Type} {mix : α → α → α} {g h : Nat → α} : ∀ (m j : Nat) (x : α), (∀ i, j ≤ i → i < j + m → g i = h i) → mxG mix g m j x = mxG mix h m j x := by
  intro m
  induction m with
  | zero => intro j x _; rfl
  | succ m ih =>
    intro j x e
    rw [mxG_s, mxG_s, e j (Nat.le_refl _) (by omega)]
    exact ih (j + 1) _ (fun i h1 h2 => e i (by omega) (by omega))
def mixJ (x y : Int64) : Int64 := ((x ^^^ y) * (-7046029254386353131 : Int64)) ^^^ (((x ^^^ y) * (-7046029254386353131 : Int64)).toUInt64 >>> ((29 : Int32).toInt64.toUInt64 &&& Int64.toUInt64 63)).toInt64
def finJ (x : Int64) : Int32 := (x.toUInt64 >>> ((32 : Int32).toInt64.toUInt64 &&& Int64.toUInt64 63)).toInt64.toInt32
def hsJ (k w : Nat) (g : fJ) : Nat := (finJ (mxG mixJ g w 0 0)).toBitVec.toNat % 2 ^ k
theorem hsJ_cg {k w : Nat} {g h : fJ} (e : ∀ i, i < w → g i = h i) : hsJ k w g = hsJ k w h := by
  unfold hsJ
  rw [mxG_cg w 0 0 (fun i _ h2 => e i (by omega))]
theorem hsJ_lt {k w : Nat} {g : fJ} : hsJ k w g < 2 ^ k := Nat.mod_lt _ (Nat.two_pow_pos k)
abbrev rwK (r0 D S T k : Nat) : Prop := lc r0 = 7 ∧ lr r0 0 = D ∧ lr r0 1 = S ∧ lr r0 2 = T ∧ lc D = 21 ∧ ln T = 2 ^ k ∧ k ≤ 20 ∧ ln D ≤ 740000 ∧ ln S ≤ 20000 ∧ lc S = 20 ∧ lc T = 20
theorem rw83 : rwK 83 84 85 86 15 := by decide
theorem rw87 : rwK 87 84 88 89 15 := by decide
theorem rw99 : rwK 99 100 101 102 13 := by decide
/-- n rows of w longs, row i standing at st i -/
def RW (s : qS) (r0 D S T k n w lim : Nat) (st : Nat → Nat) (R : Nat → fJ) : Prop := s.1 r0 3 = nI n ∧ s.1 r0 4 = nI w ∧ s.1 r0 5 = nI lim ∧ (n < 2 ^ k ∧ n ≤ ln S) ∧ (∀ i, i < n → s.1 S i = nI (st i) ∧ st i + w ≤ ln D ∧ ∀ j, j < w → s.2.1 D (st i + j) = R i j) ∧ TB (s.1 T) (2 ^ k) n (fun i => hsJ k w (R i))
abbrev smR (w : Nat) (R : Nat → fJ) (g : fJ) (i : Nat) : Prop := ∀ j, j < w → g j = R i j
section RWs
variable {en : pN} {d r0 D S T k n w lim a f : Nat} {s : qS} {st : Nat → Nat} {R : Nat → fJ} {g : fJ}
theorem x_isSame (hK : rwK r0 D S T k) (h4 : s.1 r0 4 = nI w) (hw : w < 2 ^ 20) (ha : lc a = 21) (hf : f + w ≤ ln a) (hla : ln a < 2 ^ 30) {z : Nat} (hz : z + w ≤ ln D) : ∃ rb : Bool, qev en (d + 1) 148 [.ref r0, .ref a, .int (nI f), .int (nI z)] s = some (some (.int (bt rb)), s) ∧ (rb = true ↔ ∀ j, j < w → s.2.1 a (f + j) = s.2.1 D (z + j)) := by
  obtain ⟨k1, k2, k3, k4, k5, k6, k7, k8, k9, k10, k11⟩ := hK
  have loop : ∀ (m j : Nat), j + m = w → ∃ rb : Bool, L_X7_isSame_3 en d r0 a (nI f) (nI z) (nI j) s = some (some (.int (bt rb)), s) ∧ (rb = true ↔ ∀ i, j ≤ i → i < w → s.2.1 a (f + i) = s.2.1 D (z + i)) := by
    intro m
    induction m with
    | zero =>
      intro j hj
      refine ⟨true, le_X7_isSame_3 en d _ _ _ _ _ _ _ ?_, ⟨fun _ i h1 h2 => by omega, fun _ => rfl⟩⟩
      rw [gd_true k1, gd_true ha, h4, if_pos (by rw [n_LE (by omega) (by omega)]; omega)]
      rfl
    | succ m ih =>
      intro j hj
      have top : ∀ r, (if (lg_cmp (s.2.1 a (f + j)) (s.2.1 D (z + j))) = (0 : Int32) then L_X7_isSame_3 en d r0 a (nI f) (nI z) (nI (j + 1)) s else some (some (.int (0 : Int32)), s)) = some r → L_X7_isSame_3 en d r0 a (nI f) (nI z) (nI j) s = some r := by
        intro r hr
        refine le_X7_isSame_3 en d _ _ _ _ _ _ _ ?_
        rw [gd_true k1, gd_true ha, h4, if_neg (by rw [n_LE (by omega) (by omega)]; omega), nI_add, nI_add, gd_true (n_in (by omega) (by omega)), k2, gd_true (n_in (by omega) (by omega)), n_cl (by omega), n_cl (by omega), n_ar]
        exact hr
      by_cases q : s.2.1 a (f + j) = s.2.1 D (z + j)
      · obtain ⟨rb, e1, e2⟩ := ih (j + 1) (by omega)
        refine ⟨rb, top _ (by rw [if_pos (lgc0.mpr q)]; exact e1), e2.trans ⟨fun c i h1 h2 => ?_, fun c i h1 h2 => c i (by omega) h2⟩⟩
        by_cases y : i = j
        · rw [y]; exact q
        · exact c i (by omega) h2
      · exact ⟨false, top _ (by rw [if_neg (fun y => q (lgc0.mp y))]; rfl), ⟨fun y => (by cases y), fun c => absurd (c j (Nat.le_refl _) (by omega)) q⟩⟩
  obtain ⟨rb, e1, e2⟩ := loop w 0 (by omega)
  refine ⟨rb, le_X7_isSame en d _ _ _ _ _ _ ?_, e2.trans ⟨fun c i h => c i (Nat.zero_le _) h, fun c i _ h => c i h⟩⟩
  rw [gd_true k1, gd_true ha]
  exact e1
theorem x_mix (hK : rwK r0 D S T k) (h4 : s.1 r0 4 = nI w) (hw : w < 2 ^ 20) (ha : lc a = 21) (hf : f + w ≤ ln a) (hla : ln a < 2 ^ 30) (hg : ∀ j, j < w → s.2.1 a (f + j) = g j) {r : qR} {H : Int64} {Z : Int32} (hZ : finJ H &&& ((Int32.ofNat (ln T)) - (1 : Int32)) = Z) (hr : L_X7_placeOf_58 en d r0 a (nI f) Z 0 s = some r) : ∀ (m j : Nat) (x : Int64), j + m = w → mxG mixJ g m j x = H → L_X7_placeOf_5 en d r0 a (nI f) x (nI j) s = some r := by
  obtain ⟨k1, k2, k3, k4, k5, k6, k7, k8, k9, k10, k11⟩ := hK
  intro m
  induction m with
  | zero =>
    intro j x hj hH
    rw [mxG_0] at hH
    subst hH
    unfold finJ at hZ
    refine le_X7_placeOf_5 en d _ _ _ _ _ _ _ ?_
    rw [gd_true k1, gd_true ha, h4, if_pos (by rw [n_LE (by omega) (by omega)]; omega), k4, hZ, nm_eq]
    exact hr
  | succ m ih =>
    intro j x hj hH
    have h := ih (j + 1) (mixJ x (g j)) (by omega) (mxG_s.symm.trans hH)
    refine le_X7_placeOf_5 en d _ _ _ _ _ _ _ ?_
    rw [gd_true k1, gd_true ha, h4, if_neg (by rw [n_LE (by omega) (by omega)]; omega), nI_add, gd_true (n_in (by omega) (by omega)), nm_eq, nm_eq, n_cl (by omega), hg j (by omega), n_ar]
    unfold mixJ at h
    exact h
/-- the place of a row, or the free one where it would come -/
theorem x_placeOf (hK : rwK r0 D S T k) (hR : RW s r0 D S T k n w lim st R) (hw : w < 2 ^ 20) (ha : lc a = 21) (hf : f + w ≤ ln a) (hla : ln a < 2 ^ 30) (hg : ∀ j, j < w → s.2.1 a (f + j) = g j) : ∃ e, stopT (s.1 T) (2 ^ k) n (hsJ k w g) (smR w R g) e ∧ qev en (d + 2) 147 [.ref r0, .ref a, .int (nI f)] s = some (some (.int (nI ((hsJ k w g + e) % 2 ^ k))), s) := by
  have hK' := hK
  obtain ⟨k1, k2, k3, k4, k5, k6, k7, k8, k9, k10, k11⟩ := hK
  obtain ⟨a1, a2, a3, ⟨a4, a5⟩, a6, a7⟩ := hR
  have h2 : 2 ^ k ≤ 2 ^ 20 := Nat.pow_le_pow_right (by decide) k7
  have h3 := Nat.two_pow_pos k
  obtain ⟨e, he⟩ := tb_stop (H := hsJ k w g) (same := smR w R g) a7 a4 (by omega)
  refine ⟨e, he, ?_⟩
  have one : ∀ i, i < n → ∃ rb : Bool, qev en (d + 1) 148 [.ref r0, .ref a, .int (nI f), .int (nI (st i))] s = some (some (.int (bt rb)), s) ∧ (rb = true ↔ smR w R g i) := by
    intro i hi
    obtain ⟨b1, b2, b3⟩ := a6 i hi
    obtain ⟨rb, e1, e2⟩ := x_isSame (en := en) (d := d) hK' a2 hw ha hf hla b2
    exact ⟨rb, e1, e2.trans ⟨fun z j hj => by rw [← hg j hj, ← b3 j hj]; exact z j hj, fun z j hj => by rw [hg j hj, b3 j hj]; exact z j hj⟩⟩
  have loop : ∀ (m j : Nat), j + m = e → L_X7_placeOf_58 en (d + 1) r0 a (nI f) (nI ((hsJ k w g + j) % 2 ^ k)) (nI j) s = some (some (.int (nI ((hsJ k w g + e) % 2 ^ k))), s) := by
    intro m
    induction m with
    | zero =>
      intro j hj
      obtain rfl : j = e := by omega
      have hp : (hsJ k w g + j) % 2 ^ k < 2 ^ k := Nat.mod_lt _ h3
      refine le_X7_placeOf_58 en (d + 1) _ _ _ _ _ _ _ ?_
      have e1 := he.1
      rw [gd_true k1, gd_true ha, k4, k6, if_neg (show ¬ Int32.ofNat (2 ^ k) ≤ nI j from fun y => by rw [show Int32.ofNat (2 ^ k) = nI (2 ^ k) from rfl, n_LE (by omega) (by omega)] at y; omega), gd_true (n_in hp (by omega)), n_cl (by omega)]
      rcases he.2.2 with z | ⟨i, hi, z, c⟩
      · rw [if_pos z]
      · obtain ⟨rb, o1, o2⟩ := one i hi
        rw [if_neg (by rw [z]; exact nz_s (by omega)), z, show nI (i + 1) - (1 : Int32) = nI i from nI_pred i, k3, gd_true (n_in (by omega) (by omega)), n_cl (by omega), (a6 i hi).1, o1, bI_some, o2.mpr c, if_neg (by decide)]
    | succ m ih =>
      intro j hj
      have hp : (hsJ k w g + j) % 2 ^ k < 2 ^ k := Nat.mod_lt _ h3
      refine le_X7_placeOf_58 en (d + 1) _ _ _ _ _ _ _ ?_
      have e1 := he.1
      obtain ⟨i, hi, z, c⟩ := he.2.1 j (by omega)
      obtain ⟨rb, o1, o2⟩ := one i hi
      have rf : rb = false := by
        cases rb with
        | false => rfl
        | true => exact absurd (o2.mp rfl) c
      rw [gd_true k1, gd_true ha, k4, k6, if_neg (show ¬ Int32.ofNat (2 ^ k) ≤ nI j from fun y => by rw [show Int32.ofNat (2 ^ k) = nI (2 ^ k) from rfl, n_LE (by omega) (by omega)] at y; omega), gd_true (n_in hp (by omega)), n_cl (by omega), if_neg (by rw [z]; exact nz_s (by omega)), z, show nI (i + 1) - (1 : Int32) = nI i from nI_pred i, k3, gd_true (n_in (by omega) (by omega)), n_cl (by omega), (a6 i hi).1, o1, bI_some, rf, if_pos (by decide), nm_eq, show Int32.ofNat (2 ^ k) - (1 : Int32) = nI (2 ^ k - 1) from n_sr (by show 1 ≤ _; omega), nxt_pl (by omega), n_ar]
      exact ih (j + 1) (by omega)
  refine le_X7_placeOf en (d + 1) _ _ _ _ _ ?_
  rw [gd_true k1, gd_true ha]
  have l0 := loop e 0 (by omega)
  rw [show (hsJ k w g + 0) % 2 ^ k = hsJ k w g from Nat.mod_eq_of_lt hsJ_lt] at l0
  refine x_mix (g := g) (H := mxG mixJ g w 0 0) (Z := nI (hsJ k w g)) hK' a2 hw ha hf hla hg ?_ l0 w 0 0 (by omega) rfl
  rw [k6, show Int32.ofNat (2 ^ k) - (1 : Int32) = nI (2 ^ k - 1) from n_sr (by show 1 ≤ _; omega), and_nI (by omega), and_pow]
  rfl
theorem sm_h {i : Nat} (h : smR w R g i) : hsJ k w (R i) = hsJ k w g := hsJ_cg fun j hj => (h j hj).symm
/-- the number of a row -/
theorem x_numberOf (hK : rwK r0 D S T k) (hR : RW s r0 D S T k n w lim st R) (hw : w < 2 ^ 20) (ha : lc a = 21) (hf : f + w ≤ ln a) (hla : ln a < 2 ^ 30) (hg : ∀ j, j < w → s.2.1 a (f + j) = g j) : (∃ i, i < n ∧ smR w R g i ∧ qev en (d + 3) 149 [.ref r0, .ref a, .int (nI f)] s = some (some (.int (nI i)), s)) ∨ ((∀ i, i < n → ¬ smR w R g i) ∧ qev en (d + 3) 149 [.ref r0, .ref a, .int (nI f)] s = some (some (.int (-1)), s)) := by
  obtain ⟨e, he, e1⟩ := x_placeOf (en := en) (d := d) hK hR hw ha hf hla hg
  obtain ⟨k1, k2, k3, k4, k5, k6, k7, k8, k9, k10, k11⟩ := hK
  obtain ⟨a1, a2, a3, ⟨a4, a5⟩, a6, a7⟩ := hR
  have h2 : 2 ^ k ≤ 2 ^ 20 := Nat.pow_le_pow_right (by decide) k7
  have h3 := Nat.two_pow_pos k
  have hp : (hsJ k w g + e) % 2 ^ k < 2 ^ k := Nat.mod_lt _ h3
  have start : ∀ r, some (some (.int ((s.1 T ((hsJ k w g + e) % 2 ^ k)) - (1 : Int32))), s) = some r → qev en (d + 3) 149 [.ref r0, .ref a, .int (nI f)] s = some r := by
    intro r hr
    refine le_X7_numberOf en (d + 2) _ _ _ _ _ ?_
    rw [gd_true k1, gd_true ha, e1, bI_some, k4, k6, gd_true (n_in hp (by omega)), n_cl (by omega)]
    exact hr
  rcases he.2.2 with z | ⟨i, hi, z, c⟩
  · right
    exact ⟨tb_none a7 (by omega) he z (fun i _ h => sm_h h), start _ (by rw [z]; rfl)⟩
  · left
    exact ⟨i, hi, c, start _ (by rw [z, nI_pred])⟩
end RWs

