/-! ROWS OF STATES, the model's side: hash, same, load, number. -/
def mixM (x y : Int32) : Int32 := (((31 : Int32) * x) + y) ^^^ ((((31 : Int32) * x) + y).toUInt32 >>> ((15 : Int32).toUInt32 &&& Int32.toUInt32 31)).toInt32
def finM (x : Int32) : Int32 := x * (625341585 : Int32)
def hsM (W : Nat) (f : fI) : Nat := (finM (mxG mixM f W 0 17)).toBitVec.toNat / 65536
theorem u16 {x : Int32} : (x.toUInt32 >>> ((16 : Int32).toUInt32 &&& Int32.toUInt32 31)).toInt32 = nI (x.toBitVec.toNat / 65536) := by
  rw [← Int32.toBitVec_inj]
  have e : ((x.toUInt32 >>> ((16 : Int32).toUInt32 &&& Int32.toUInt32 31)).toInt32).toBitVec = x.toBitVec >>> 16 := rfl
  rw [e]
  show _ = BitVec.ofNat 32 _
  refine BitVec.eq_of_toNat_eq ?_
  have h := x.toBitVec.isLt
  rw [BitVec.toNat_ushiftRight, Nat.shiftRight_eq_div_pow, BitVec.toNat_ofNat, Nat.mod_eq_of_lt (by omega)]
theorem u17 {x : Int32} : (x.toUInt32 >>> ((17 : Int32).toUInt32 &&& Int32.toUInt32 31)).toInt32 = nI (x.toBitVec.toNat / 131072) := by
  rw [← Int32.toBitVec_inj]
  have e : ((x.toUInt32 >>> ((17 : Int32).toUInt32 &&& Int32.toUInt32 31)).toInt32).toBitVec = x.toBitVec >>> 17 := rfl
  rw [e]
  show _ = BitVec.ofNat 32 _
  refine BitVec.eq_of_toNat_eq ?_
  have h := x.toBitVec.isLt
  rw [BitVec.toNat_ushiftRight, Nat.shiftRight_eq_div_pow, BitVec.toNat_ofNat, Nat.mod_eq_of_lt (by omega)]
theorem hsM_cg {W : Nat} {f g : fI} (e : ∀ i, i < W → f i = g i) : hsM W f = hsM W g := by
  unfold hsM
  rw [mxG_cg W 0 17 (fun i _ h2 => e i (by omega))]
theorem hsM_lt {W : Nat} {f : fI} : hsM W f < 65536 := by
  unfold hsM
  have h := (finM (mxG mixM f W 0 17)).toBitVec.isLt
  omega
theorem hsM_0 {W : Nat} {f : fI} : (hsM W f + 0) % 65536 = hsM W f := by
  have h := @hsM_lt W f
  generalize hsM W f = x at h
  omega
theorem hsM_e {W : Nat} {f : fI} : nI ((finM (mxG mixM f W 0 17)).toBitVec.toNat / 65536) = nI (hsM W f) := by
  unfold hsM
  rfl
/-- n rows of the model, W wide -/
def RWM (s : qS) (n W : Nat) (R : Nat → fI) : Prop := s.1 151 101 = nI n ∧ s.1 151 60 = nI W ∧ n ≤ 20000 ∧ (∀ i, i < n → ∀ j, j < W → s.1 210 (i * W + j) = R i j) ∧ TB (s.1 211) 65536 n (fun i => hsM W (R i))
abbrev smM (W : Nat) (R : Nat → fI) (f : fI) (i : Nat) : Prop := ∀ j, j < W → R i j = f j
section RMs
variable {en : pN} {d n W lim k : Nat} {s s' : qS} {R : Nat → fI} {f : fI} {r : qR} {v1 v2 v3 : Int32}
theorem W_le (hW : W = 52 ∨ W = 80 ∨ W = 213) : W ≤ 213 := by omega
theorem rm_room (hn : n ≤ 20000) (h : W ≤ 80 ∨ n ≤ 6000) (hW : W ≤ 213) (hk : k < n) : k * W + W ≤ 1600000 := by
  have h1 : (k + 1) * W ≤ n * W := Nat.mul_le_mul_right W hk
  rw [Nat.succ_mul] at h1
  rcases h with h | h
  · have := Nat.mul_le_mul hn h; omega
  · have := Nat.mul_le_mul h hW; omega
theorem m_hash (h60 : s.1 151 60 = nI W) (hW : W ≤ 213) (hs : s.1 187 = f) : qev en (d + 1) 355 [.ref 151] s = some (some (.int (finM (mxG mixM f W 0 17))), s) := by
  have loop : ∀ (m j : Nat) (x H : Int32), j + m = W → mxG mixM f m j x = H → L_X12_hashOfState_5 en d x (nI j) s = some (some (.int (finM H)), s) := by
    intro m
    induction m with
    | zero =>
      intro j x H hj hH
      rw [mxG_0] at hH
      subst hH
      refine le_X12_hashOfState_5 en d _ _ _ _ ?_
      rw [h60, if_pos (by rw [n_LE (by omega) (by omega)]; omega)]
      rfl
    | succ m ih =>
      intro j x H hj hH
      have h := ih (j + 1) (mixM x (f j)) H (by omega) (mxG_s.symm.trans hH)
      refine le_X12_hashOfState_5 en d _ _ _ _ ?_
      rw [h60, if_neg (by rw [n_LE (by omega) (by omega)]; omega), gd_true (n_in (by omega) (by decide)), nm_eq, nm_eq, n_cl (by omega), hs, n_ar]
      unfold mixM at h
      exact h
  exact le_X12_hashOfState en d _ _ (loop W 0 17 _ (by omega) rfl)
theorem m_isStateAt (h60 : s.1 151 60 = nI W) (hW : W ≤ 213) (hs : s.1 187 = f) (hk : k * W + W ≤ 1600000) (hk2 : k ≤ 20000) {g : fI} (hg : ∀ j, j < W → s.1 210 (k * W + j) = g j) : ∃ rb : Bool, qev en (d + 1) 356 [.ref 151, .int (nI k)] s = some (some (.int (bt rb)), s) ∧ (rb = true ↔ ∀ j, j < W → g j = f j) := by
  have l0 : ∀ j, L_X12_isStateAt_12 en d 0 (nI (k * W)) (nI j) s = some (some (.int 0), s) := by
    intro j
    refine le_X12_isStateAt_12 en d _ _ _ _ _ ?_
    split
    · rw [gd_true (Or.inl rfl)]
    · rw [if_pos rfl, gd_true (Or.inl rfl)]
  have loop : ∀ (m j : Nat), j + m = W → ∃ rb : Bool, L_X12_isStateAt_12 en d 1 (nI (k * W)) (nI j) s = some (some (.int (bt rb)), s) ∧ (rb = true ↔ ∀ i, j ≤ i → i < W → g i = f i) := by
    intro m
    induction m with
    | zero =>
      intro j hj
      refine ⟨true, le_X12_isStateAt_12 en d _ _ _ _ _ ?_, ⟨fun _ i h1 h2 => by omega, fun _ => rfl⟩⟩
      rw [h60, if_pos (by rw [n_LE (by omega) (by omega)]; omega), gd_true (Or.inr rfl)]
      rfl
    | succ m ih =>
      intro j hj
      have top : ∀ r, (if ¬ g j = f j then L_X12_isStateAt_12 en d 0 (nI (k * W)) (nI (j + 1)) s else L_X12_isStateAt_12 en d 1 (nI (k * W)) (nI (j + 1)) s) = some r → L_X12_isStateAt_12 en d 1 (nI (k * W)) (nI j) s = some r := by
        intro r hr
        refine le_X12_isStateAt_12 en d _ _ _ _ _ ?_
        rw [h60, if_neg (by rw [n_LE (by omega) (by omega)]; omega), if_neg (by decide), nI_add, gd_true (n_in (by omega) (by decide)), gd_true (n_in (by omega) (by decide)), n_cl (by omega), n_cl (by omega), hg j (by omega), hs, n_ar]
        exact hr
      by_cases q : g j = f j
      · obtain ⟨rb, e1, e2⟩ := ih (j + 1) (by omega)
        refine ⟨rb, top _ (by rw [if_neg (fun z => z q)]; exact e1), e2.trans ⟨fun c i h1 h2 => ?_, fun c i h1 h2 => c i (by omega) h2⟩⟩
        by_cases y : i = j
        · rw [y]; exact q
        · exact c i (by omega) h2
      · exact ⟨false, top _ (by rw [if_pos q]; exact l0 _), ⟨fun y => (by cases y), fun c => absurd (c j (Nat.le_refl _) (by omega)) q⟩⟩
  obtain ⟨rb, e1, e2⟩ := loop W 0 (by omega)
  refine ⟨rb, le_X12_isStateAt en d _ _ _ ?_, e2.trans ⟨fun c i h => c i (Nat.zero_le _) h, fun c i _ h => c i h⟩⟩
  rw [h60, n_mul]
  exact e1
/-- a state is at hand -/
theorem m_load (h60 : s.1 151 60 = nI W) (hW : W ≤ 213) (hk : k * W + W ≤ 1600000) (hk2 : k ≤ 20000) {g : fI} (hg : ∀ j, j < W → s.1 210 (k * W + j) = g j) : qev en (d + 1) 357 [.ref 151, .int (nI k)] s = some (none, uIr s 187 (fun j => if j < W then g j else s.1 187 j)) := by
  have loop : ∀ (m j : Nat), j + m = W → L_X12_loadState_9 en d (nI (k * W)) (nI j) (uIr s 187 (fun i => if i < j then g i else s.1 187 i)) = some (none, uIr s 187 (fun j => if j < W then g j else s.1 187 j)) := by
    intro m
    induction m with
    | zero =>
      intro j hj
      obtain rfl : j = W := by omega
      refine le_X12_loadState_9 en d _ _ _ _ ?_
      rw [uIr_ne (by decide), h60, if_pos (Int32.le_refl _)]
    | succ m ih =>
      intro j hj
      refine le_X12_loadState_9 en d _ _ _ _ ?_
      rw [uIr_ne (by decide), uIr_ne (by decide), h60, if_neg (by rw [n_LE (by omega) (by omega)]; omega), nI_add, gd_true (n_in (by omega) (by decide)), gd_true (n_in (by omega) (by decide)), nm_eq, n_cl (by omega), n_cl (by omega), hg j (by omega), uIr_u, n_ar]
      have e : upd (fun i => if i < j then g i else s.1 187 i) j (g j) = fun i => if i < j + 1 then g i else s.1 187 i := by
        funext i
        show (if i = j then g j else if i < j then g i else s.1 187 i) = _
        by_cases q : i = j
        · rw [if_pos q, if_pos (by omega), q]
        · rw [if_neg q]
          by_cases z : i < j
          · rw [if_pos z, if_pos (by omega)]
          · rw [if_neg z, if_neg (by omega)]
      rw [e]
      exact ih (j + 1) (by omega)
  refine le_X12_loadState en d _ _ _ ?_
  rw [h60, n_mul]
  have := loop W 0 (by omega)
  have e : (fun i => if i < 0 then g i else s.1 187 i) = s.1 187 := funext fun i => if_neg (Nat.not_lt_zero i)
  rw [e, uIr_i] at this
  exact this
/-- what comes behind a new state -/
def nwM (s : qS) (n W : Nat) (f : fI) (p : Nat) (v1 v2 v3 : Int32) : qS := uI (uI (uI (uI (uI (uI (uIr (uI s 211 p (nI (n + 1))) 210 (fun j => if n * W ≤ j ∧ j < n * W + W then f (j - n * W) else s.1 210 j)) 212 n v1) 213 n v2) 214 n v3) 216 n 0) 217 n (-2)) 151 101 (nI (n + 1))
theorem m_num111 (h60 : s.1 151 60 = nI W) (hW : W ≤ 213) (h101 : s.1 151 101 = nI n) (hn : n < 20000) (hr : n * W + W ≤ 1600000) (hs : s.1 187 = f) (hv3 : v3 = 0 ∨ v3 = 1) : L_X12_numberOf_111 en d v1 v2 v3 (nI 0) s = some (some (.int (nI n)), uI (uI (uI (uI (uI (uI (uIr s 210 (fun j => if n * W ≤ j ∧ j < n * W + W then f (j - n * W) else s.1 210 j)) 212 n v1) 213 n v2) 214 n v3) 216 n 0) 217 n (-2)) 151 101 (nI (n + 1))) := by
  have nar : vp_nar .boolean v3 = v3 := by rcases hv3 with rfl | rfl <;> rfl
  have nar0 : vp_nar .boolean (0 : Int32) = 0 := rfl
  have loop : ∀ (m j : Nat), j + m = W → L_X12_numberOf_111 en d v1 v2 v3 (nI j) (uIr s 210 (fun i => if n * W ≤ i ∧ i < n * W + j then f (i - n * W) else s.1 210 i)) = some (some (.int (nI n)), uI (uI (uI (uI (uI (uI (uIr s 210 (fun j => if n * W ≤ j ∧ j < n * W + W then f (j - n * W) else s.1 210 j)) 212 n v1) 213 n v2) 214 n v3) 216 n 0) 217 n (-2)) 151 101 (nI (n + 1))) := by
    intro m
    induction m with
    | zero =>
      intro j hj
      obtain rfl : j = W := by omega
      refine le_X12_numberOf_111 en d _ _ _ _ _ _ ?_
      have g : p_inB (nI n) 20001 = true := n_in (by omega) (by decide)
      have c : (nI n).toNatClampNeg = n := n_cl (by omega)
      rw [uIr_ne (by decide), h60, if_pos (Int32.le_refl _), h101, gd_true g, nm_eq, c, uI_ne (by decide), uIr_ne (by decide), h101, gd_true g, nm_eq, c, uI_ne (by decide), uI_ne (by decide), uIr_ne (by decide), h101, gd_true g, nm_eq, c, nar, uI_ne (by decide), uI_ne (by decide), uI_ne (by decide), uIr_ne (by decide), h101, gd_true g, nm_eq, c, nar0, uI_ne (by decide), uI_ne (by decide), uI_ne (by decide), uI_ne (by decide), uIr_ne (by decide), h101, gd_true g, nm_eq, c, uI_ne (by decide), uI_ne (by decide), uI_ne (by decide), uI_ne (by decide), uI_ne (by decide), uIr_ne (by decide), h101, nm_eq, g_I, if_pos ⟨rfl, rfl⟩, n_ar]
      rw [show nI (n + (1 : Nat)) - (1 : Int32) = nI n from nI_pred n]
    | succ m ih =>
      intro j hj
      refine le_X12_numberOf_111 en d _ _ _ _ _ _ ?_
      rw [uIr_ne (by decide), uIr_ne (by decide), h60, h101, if_neg (by rw [n_LE (by omega) (by omega)]; omega), gd_true (n_in (by omega) (by decide)), n_mul, nI_add, gd_true (n_in (by omega) (by decide)), nm_eq, n_cl (by omega), n_cl (by omega), hs, uIr_u, n_ar]
      have e : upd (fun i => if n * W ≤ i ∧ i < n * W + j then f (i - n * W) else s.1 210 i) (n * W + j) (f j) = fun i => if n * W ≤ i ∧ i < n * W + (j + 1) then f (i - n * W) else s.1 210 i := by
        funext i
        show (if i = n * W + j then f j else if n * W ≤ i ∧ i < n * W + j then f (i - n * W) else s.1 210 i) = _
        by_cases q : i = n * W + j
        · rw [if_pos q, if_pos (by omega), q, Nat.add_sub_cancel_left]
        · rw [if_neg q]
          by_cases z : n * W ≤ i ∧ i < n * W + j
          · rw [if_pos z, if_pos (by omega)]
          · rw [if_neg z, if_neg (by omega)]
      rw [e]
      exact ih (j + 1) (by omega)
  have := loop W 0 (by omega)
  have e : (fun i => if n * W ≤ i ∧ i < n * W + 0 then f (i - n * W) else s.1 210 i) = s.1 210 := funext fun i => if_neg (by omega)
  rw [e, uIr_i] at this
  exact this
theorem p65 : (65536 : Nat) = 2 ^ 16 := by decide
theorem m_numberOf (hR : RWM s n W R) (hs : s.1 187 = f) (hW : W ≤ 213) (hw : s.1 151 58 = nI k) (hk : k ≤ 2) (hlim : lim = if k = 2 then 6000 else 20000) (hnl : n ≤ lim) (hWl : W ≤ 80 ∨ lim = 6000) (hv3 : v3 = 0 ∨ v3 = 1) :
    (∃ i, i < n ∧ smM W R f i ∧ qev en (d + 2) 358 [.ref 151, .int v1, .int v2, .int v3] s = some (some (.int (nI i)), s)) ∨
    ((∀ i, i < n → ¬ smM W R f i) ∧ ((n < lim ∧ ∃ p, qev en (d + 2) 358 [.ref 151, .int v1, .int v2, .int v3] s = some (some (.int (nI n)), nwM s n W f p v1 v2 v3) ∧ RWM (nwM s n W f p v1 v2 v3) (n + 1) W (fun i => if i = n then f else R i)) ∨ (n = lim ∧ qev en (d + 2) 358 [.ref 151, .int v1, .int v2, .int v3] s = some (some (.int (-3)), s)))) := by
  obtain ⟨a1, a2, a3, a4, a5⟩ := hR
  have hsm : ∀ i, smM W R f i → hsM W (R i) = hsM W f := fun i h => hsM_cg h
  obtain ⟨e, he⟩ := tb_stop (H := hsM W f) (same := smM W R f) a5 (by omega) (by omega)
  have room : ∀ i, i < n → i * W + W ≤ 1600000 := fun i hi => rm_room a3 (by
    rcases hWl with z | z
    · exact Or.inl z
    · exact Or.inr (by omega)) hW hi
  have one : ∀ i, i < n → ∃ rb : Bool, qev en (d + 1) 356 [.ref 151, .int (nI i)] s = some (some (.int (bt rb)), s) ∧ (rb = true ↔ smM W R f i) := fun i hi => m_isStateAt a2 hW hs (room i hi) (by omega) (a4 i hi)
  have hp : (hsM W f + e) % 65536 < 65536 := Nat.mod_lt _ (by decide)
  have loop : ∀ (m j : Nat), j + m = e → ∀ r, L_X12_numberOf_48 en (d + 1) v1 v2 v3 (nI ((hsM W f + e) % 65536)) s = some r → L_X12_numberOf_9 en (d + 1) v1 v2 v3 (nI ((hsM W f + j) % 65536)) s = some r := by
    intro m
    induction m with
    | zero =>
      intro j hj r hr
      obtain rfl : j = e := by omega
      refine le_X12_numberOf_9 en (d + 1) _ _ _ _ _ _ ?_
      rw [gd_true (n_in hp (by decide)), n_cl (by omega)]
      rcases he.2.2 with z | ⟨i, hi, z, c⟩
      · rw [if_pos z]; exact hr
      · obtain ⟨rb, o1, o2⟩ := one i hi
        rw [if_neg (by rw [z]; exact nz_s (by omega)), z, show nI (i + 1) - (1 : Int32) = nI i from nI_pred i, o1, bI_some, o2.mpr c, if_pos (by decide)]
        exact hr
    | succ m ih =>
      intro j hj r hr
      have hp : (hsM W f + j) % 65536 < 65536 := Nat.mod_lt _ (by decide)
      obtain ⟨i, hi, z, c⟩ := he.2.1 j (by omega)
      obtain ⟨rb, o1, o2⟩ := one i hi
      have rf : rb = false := by
        cases rb with
        | false => rfl
        | true => exact absurd (o2.mp rfl) c
      refine le_X12_numberOf_9 en (d + 1) _ _ _ _ _ _ ?_
      rw [gd_true (n_in hp (by decide)), n_cl (by omega), if_neg (by rw [z]; exact nz_s (by omega)), z, show nI (i + 1) - (1 : Int32) = nI i from nI_pred i, o1, bI_some, rf, if_neg (by decide), nm_eq]
      have := nxt_pl (H := hsM W f) (e := j) (k := 16) (by decide)
      rw [show (65535 : Int32) = nI (2 ^ 16 - 1) from rfl, p65, this]
      exact ih (j + 1) (by omega) r hr
  have start : ∀ r, L_X12_numberOf_48 en (d + 1) v1 v2 v3 (nI ((hsM W f + e) % 65536)) s = some r → qev en (d + 2) 358 [.ref 151, .int v1, .int v2, .int v3] s = some r := by
    intro r hr
    refine le_X12_numberOf en (d + 1) _ _ _ _ _ ?_
    rw [m_hash a2 hW hs, bI_some, nm_eq, u16, hsM_e]
    have := loop e 0 (by omega) r hr
    rw [hsM_0] at this
    exact this
  generalize hP : (hsM W f + e) % 65536 = p at hp start
  rcases he.2.2 with z | ⟨i, hi, z, c⟩
  · right
    refine ⟨tb_none a5 (by omega) he z (fun i _ h => hsm i h), ?_⟩
    rw [hP] at z
    have l48 : ∀ r, L_X12_numberOf_89 en (d + 1) v1 v2 v3 (nI p) (nI n) (nI lim) s = some r → L_X12_numberOf_48 en (d + 1) v1 v2 v3 (nI p) s = some r := by
      intro r hr
      refine le_X12_numberOf_48 en (d + 1) _ _ _ _ _ _ ?_
      rw [gd_true (n_in hp (by decide)), n_cl (by omega), if_pos z, hw, a1]
      by_cases k2 : k = 2
      · rw [if_pos k2] at hlim
        rw [if_neg (show ¬ ¬ nI k = (2 : Int32) by rw [n_eq (by decide) (by omega)]; exact fun y => y k2), ← show nI lim = (6000 : Int32) by rw [hlim]; rfl]; exact hr
      · rw [if_neg k2] at hlim
        rw [if_pos (show ¬ nI k = (2 : Int32) by rw [n_eq (by decide) (by omega)]; exact k2), ← show nI lim = (20000 : Int32) by rw [hlim]; rfl]; exact hr
    have hlim2 : lim ≤ 20000 := by rw [hlim]; split <;> omega
    by_cases hl : n < lim
    · left
      have rr := rm_room (n := lim) (k := n) (W := W) hlim2 (by
        rcases hWl with z | z
        · exact Or.inl z
        · exact Or.inr (by omega)) hW hl
      have E : nwM s n W f p v1 v2 v3 = uI (uI (uI (uI (uI (uI (uIr (uI s 211 p (nI (n + 1))) 210 (fun j => if n * W ≤ j ∧ j < n * W + W then f (j - n * W) else (uI s 211 p (nI (n + 1))).1 210 j)) 212 n v1) 213 n v2) 214 n v3) 216 n 0) 217 n (-2)) 151 101 (nI (n + 1)) := by
        unfold nwM
        rw [uI_ne (show (210 : Nat) ≠ 211 by decide)]
      refine ⟨hl, p, start _ (l48 _ (le_X12_numberOf_89 en (d + 1) _ _ _ _ _ _ _ _ ?_)), ?_⟩
      · rw [if_pos (show ¬ nI n = nI lim by rw [n_EQ (by omega) (by omega)]; omega), gd_true (n_in hp (by decide)), nm_eq, n_cl (by omega), a1, n_ar]
        have := m_num111 (en := en) (d := d + 1) (s := uI s 211 p (nI (n + 1))) (n := n) (W := W) (f := f) (v1 := v1) (v2 := v2) (v3 := v3) (by rw [uI_ne (by decide)]; exact a2) hW (by rw [uI_ne (by decide)]; exact a1) (by omega) rr (by rw [uI_ne (by decide)]; exact hs) hv3
        rw [← E] at this
        exact this
      · have r210 : (nwM s n W f p v1 v2 v3).1 210 = fun j => if n * W ≤ j ∧ j < n * W + W then f (j - n * W) else s.1 210 j := by
          unfold nwM
          rw [uI_ne (by decide), uI_ne (by decide), uI_ne (by decide), uI_ne (by decide), uI_ne (by decide), uI_ne (by decide), uIr_row]
        have r211 : (nwM s n W f p v1 v2 v3).1 211 = upd (s.1 211) p (nI (n + 1)) := by
          unfold nwM
          rw [uI_ne (by decide), uI_ne (by decide), uI_ne (by decide), uI_ne (by decide), uI_ne (by decide), uI_ne (by decide), uIr_ne (by decide), uI_row]
        have r151 : ∀ j, j ≠ 101 → (nwM s n W f p v1 v2 v3).1 151 j = s.1 151 j := fun j hj => by
          unfold nwM
          rw [g_I, if_neg (fun y => hj y.2), uI_ne (by decide), uI_ne (by decide), uI_ne (by decide), uI_ne (by decide), uI_ne (by decide), uIr_ne (by decide), uI_ne (by decide)]
        refine ⟨by unfold nwM; rw [g_I, if_pos ⟨rfl, rfl⟩], by rw [r151 60 (by decide)]; exact a2, by omega, fun i hi j hj => ?_, ?_⟩
        · rw [r210]
          dsimp only
          by_cases q : i = n
          · rw [if_pos q, q, if_pos (by omega), Nat.add_sub_cancel_left]
          · have : (i + 1) * W ≤ n * W := Nat.mul_le_mul_right W (by omega)
            rw [Nat.succ_mul] at this
            rw [if_neg q, if_neg (by omega)]
            exact a4 i (by omega) j hj
        · rw [r211]
          refine tb_hcg (h := fun i => if i = n then hsM W f else hsM W (R i)) (fun i _ => ?_) (by
            have := tb_add a5 (by decide) (by omega) he (by rw [hP]; exact z)
            rw [hP] at this
            exact this)
          dsimp only
          by_cases q : i = n
          · rw [if_pos q, if_pos q]
          · rw [if_neg q, if_neg q]
    · right
      have hle : n = lim := by omega
      refine ⟨hle, start _ (l48 _ (le_X12_numberOf_89 en (d + 1) _ _ _ _ _ _ _ _ ?_))⟩
      rw [hle, if_neg (fun y => y rfl)]
  · left
    rw [hP] at z
    refine ⟨i, hi, c, start _ (le_X12_numberOf_48 en (d + 1) _ _ _ _ _ _ ?_)⟩
    rw [gd_true (n_in hp (by decide)), n_cl (by omega), if_neg (by rw [z]; exact nz_s (by omega)), z, nI_pred]
end RMs
