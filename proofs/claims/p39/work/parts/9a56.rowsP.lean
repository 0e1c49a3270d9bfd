/-! ROWS of the class: a row put, a row referred to. -/
section RWp
variable {en : pN} {d r0 D S T k n w lim a f : Nat} {s s' : qS} {st : Nat → Nat} {R : Nat → fJ} {g : fJ}
theorem RW.fr (hR : RW s r0 D S T k n w lim st R) (h0 : ∀ j, j = 3 ∨ j = 4 ∨ j = 5 → s'.1 r0 j = s.1 r0 j) (hS : ∀ i, i < n → s'.1 S i = s.1 S i) (hT : ∀ p, p < 2 ^ k → s'.1 T p = s.1 T p) (hD : ∀ i, i < n → ∀ j, j < w → s'.2.1 D (st i + j) = s.2.1 D (st i + j)) : RW s' r0 D S T k n w lim st R := by
  obtain ⟨a1, a2, a3, a4, a6, a7⟩ := hR
  exact ⟨by rw [h0 3 (by omega)]; exact a1, by rw [h0 4 (by omega)]; exact a2, by rw [h0 5 (by omega)]; exact a3, a4, fun i hi => ⟨by rw [hS i hi]; exact (a6 i hi).1, (a6 i hi).2.1, fun j hj => by rw [hD i hi j hj]; exact (a6 i hi).2.2 j hj⟩, tb_cg hT (Nat.two_pow_pos k) a7⟩
/-- a new row's names -/
def nmS (s : qS) (r0 S T n p : Nat) (z : Int32) : qS := uI (uI (uI s S n z) r0 3 (nI (n + 1))) T p (nI (n + 1))
theorem x_name {p : Nat} {z : Int32} (hK : rwK r0 D S T k) (h3 : s.1 r0 3 = nI n) (hn : n < ln S) (hp : p < 2 ^ k) (hd : r0 ≠ S ∧ r0 ≠ T ∧ S ≠ T) : qev en (d + 1) 152 [.ref r0, .int (nI p), .int z] s = some (none, nmS s r0 S T n p z) := by
  obtain ⟨k1, k2, k3, k4, k5, k6, k7, k8, k9, k10, k11⟩ := hK
  have h2 : 2 ^ k ≤ 2 ^ 20 := Nat.pow_le_pow_right (by decide) k7
  refine le_X7_name en d _ _ _ _ _ ?_
  rw [gd_true k1, h3, k3, gd_true (n_in hn (by omega)), nm_eq, n_cl (by omega), nm_eq, k4, k6, gd_true (n_in hp (by omega)), nm_eq, n_cl (by omega), uI_ne hd.1, h3, n_ar, show (uI (uI s S n z) r0 3 (nI (n + 1))).1 r0 3 = nI (n + 1) from if_pos ⟨rfl, rfl⟩]
  rfl
theorem nmS_o {p : Nat} {z : Int32} (h1 : a ≠ S) (h2 : a ≠ r0) (h3 : a ≠ T) : (nmS s r0 S T n p z).1 a = s.1 a := by
  unfold nmS
  rw [uI_ne h3, uI_ne h2, uI_ne h1]
theorem nmS_r {p j : Nat} {z : Int32} (hd : r0 ≠ S ∧ r0 ≠ T ∧ S ≠ T) : (nmS s r0 S T n p z).1 r0 j = if j = 3 then nI (n + 1) else s.1 r0 j := by
  unfold nmS
  rw [uI_ne hd.2.1, uI_row, uI_ne hd.1]
  rfl
theorem nmS_S {p j : Nat} {z : Int32} (hd : r0 ≠ S ∧ r0 ≠ T ∧ S ≠ T) : (nmS s r0 S T n p z).1 S j = if j = n then z else s.1 S j := by
  unfold nmS
  rw [uI_ne hd.2.2, uI_ne (fun y => hd.1 y.symm), uI_row]
  rfl
theorem nmS_T {p : Nat} {z : Int32} (hd : r0 ≠ S ∧ r0 ≠ T ∧ S ≠ T) : (nmS s r0 S T n p z).1 T = upd (s.1 T) p (nI (n + 1)) := by
  unfold nmS
  rw [uI_row, uI_ne (fun y => hd.2.1 y.symm), uI_ne (fun y => hd.2.2 y.symm)]
/-- rows with one more -/
theorem RW_add {e z : Nat} (hk : k ≤ 20) (hR : RW s r0 D S T k n w lim st R) (hd : r0 ≠ S ∧ r0 ≠ T ∧ S ≠ T) (he : stopT (s.1 T) (2 ^ k) n (hsJ k w g) (smR w R g) e) (hz : s.1 T ((hsJ k w g + e) % 2 ^ k) = 0) (h1 : ∀ b, s'.1 b = (nmS s r0 S T n ((hsJ k w g + e) % 2 ^ k) (nI z)).1 b) (hD : ∀ i, i < n → ∀ j, j < w → s'.2.1 D (st i + j) = s.2.1 D (st i + j)) (hw1 : z + w ≤ ln D) (hg : ∀ j, j < w → s'.2.1 D (z + j) = g j) (hn : n + 1 < 2 ^ k ∧ n + 1 ≤ ln S) : RW s' r0 D S T k (n + 1) w lim (fun i => if i = n then z else st i) (fun i => if i = n then g else R i) := by
  obtain ⟨a1, a2, a3, a4, a6, a7⟩ := hR
  have h2 : 2 ^ k ≤ 2 ^ 20 := Nat.pow_le_pow_right (by decide) hk
  refine ⟨?_, ?_, ?_, hn, fun i hi => ?_, ?_⟩
  · rw [h1, nmS_r hd, if_pos rfl]
  · rw [h1, nmS_r hd, if_neg (by decide)]; exact a2
  · rw [h1, nmS_r hd, if_neg (by decide)]; exact a3
  · rw [h1, nmS_S hd]
    by_cases q : i = n
    · rw [if_pos q]
      refine ⟨by dsimp only; rw [if_pos q], by dsimp only; rw [if_pos q]; exact hw1, fun j hj => ?_⟩
      dsimp only
      rw [if_pos q, if_pos q]; exact hg j hj
    · rw [if_neg q]
      have b := a6 i (by omega)
      refine ⟨by dsimp only; rw [if_neg q]; exact b.1, by dsimp only; rw [if_neg q]; exact b.2.1, fun j hj => ?_⟩
      dsimp only
      rw [if_neg q, if_neg q, hD i (by omega) j hj]; exact b.2.2 j hj
  · rw [h1, nmS_T hd]
    refine tb_hcg (h := fun i => if i = n then hsJ k w g else hsJ k w (R i)) (fun i _ => ?_) (tb_add a7 (Nat.two_pow_pos k) (by omega) he hz)
    dsimp only
    by_cases q : i = n
    · rw [if_pos q, if_pos q]
    · rw [if_neg q, if_neg q]
abbrev frP (r0 D S T n w : Nat) (s s' : qS) : Prop := (∀ b, b ≠ r0 → b ≠ S → b ≠ T → s'.1 b = s.1 b) ∧ (∀ j, j ≠ 3 → s'.1 r0 j = s.1 r0 j) ∧ (∀ b, b ≠ D → s'.2.1 b = s.2.1 b) ∧ (∀ x, x < n * w → s'.2.1 D x = s.2.1 D x) ∧ s'.2.2 = s.2.2
/-- a row put -/
theorem x_put (hK : rwK r0 D S T k) (hR : RW s r0 D S T k n w lim st R) (hst : ∀ i, i < n → st i = i * w) (hd : r0 ≠ S ∧ r0 ≠ T ∧ S ≠ T) (hlim : lim * w ≤ ln D ∧ lim ≤ ln S ∧ lim < 2 ^ k) (hw : w < 2 ^ 20) (ha : lc a = 21) (haD : a ≠ D) (hf : f + w ≤ ln a) (hla : ln a < 2 ^ 30) (hg : ∀ j, j < w → s.2.1 a (f + j) = g j) :
    (∃ i, i < n ∧ smR w R g i ∧ qev en (d + 3) 150 [.ref r0, .ref a, .int (nI f)] s = some (some (.int (nI i)), s)) ∨
    ((∀ i, i < n → ¬ smR w R g i) ∧ ((n < lim ∧ ∃ s', qev en (d + 3) 150 [.ref r0, .ref a, .int (nI f)] s = some (some (.int (nI n)), s') ∧ frP r0 D S T n w s s' ∧ RW s' r0 D S T k (n + 1) w lim (fun i => if i = n then n * w else st i) (fun i => if i = n then g else R i)) ∨ (lim ≤ n ∧ qev en (d + 3) 150 [.ref r0, .ref a, .int (nI f)] s = some (some (.int (-1)), s)))) := by
  obtain ⟨e, he, e1⟩ := x_placeOf (en := en) (d := d) hK hR hw ha hf hla hg
  have hK' := hK
  have hR' := hR
  obtain ⟨k1, k2, k3, k4, k5, k6, k7, k8, k9, k10, k11⟩ := hK
  obtain ⟨a1, a2, a3, ⟨a4, a5⟩, a6, a7⟩ := hR
  have h2 : 2 ^ k ≤ 2 ^ 20 := Nat.pow_le_pow_right (by decide) k7
  have h3 := Nat.two_pow_pos k
  have hp : (hsJ k w g + e) % 2 ^ k < 2 ^ k := Nat.mod_lt _ h3
  generalize hP : (hsJ k w g + e) % 2 ^ k = p at e1 hp
  have start : ∀ r, (if ¬ (s.1 T p) = (0 : Int32) then L_X7_put_65 en (d + 2) r0 (nI p) s else if nI n < nI lim then gd (cpG (nI f) (nI n * nI w) (nI w) (ln a) (ln D)) (nm (uJr s D (va_cpy (s.2.1 a) (s.2.1 D) (nI f).toNatClampNeg (nI n * nI w).toNatClampNeg (nI w).toNatClampNeg)) (fun s8 => bV (qev en (d + 2) 152 [.ref r0, .int (nI p), .int ((s8.1 r0 3) * (s8.1 r0 4))] s8) (fun s10 => L_X7_put_65 en (d + 2) r0 (nI p) s10))) else some (some (.int (-1 : Int32)), s)) = some r → qev en (d + 3) 150 [.ref r0, .ref a, .int (nI f)] s = some r := by
    intro r hr
    refine le_X7_put en (d + 2) _ _ _ _ _ ?_
    rw [gd_true k1, gd_true ha, e1, bI_some, k4, k6, gd_true (n_in hp (by omega)), n_cl (by omega), k2, a1, a2, a3]
    exact hr
  have l65 : ∀ (s1 : qS) (i : Nat), s1.1 T p = nI (i + 1) → L_X7_put_65 en (d + 2) r0 (nI p) s1 = some (some (.int (nI i)), s1) := by
    intro s1 i h
    refine le_X7_put_65 en _ _ _ _ _ ?_
    rw [gd_true k1, k4, k6, gd_true (n_in hp (by omega)), n_cl (by omega), h, nI_pred]
  rcases he.2.2 with z | ⟨i, hi, z, c⟩
  · right
    refine ⟨tb_none a7 (by omega) he z (fun i _ h => sm_h h), ?_⟩
    rw [hP] at z
    by_cases hl : n < lim
    · left
      have hnw : n * w + w ≤ ln D := by
        have : (n + 1) * w ≤ lim * w := Nat.mul_le_mul_right w hl
        rw [Nat.succ_mul] at this
        omega
      have emul : nI n * nI w = nI (n * w) := n_mul
      have hU : ∀ b, b ≠ D → (uJr s D (va_cpy (s.2.1 a) (s.2.1 D) f (n * w) w)).2.1 b = s.2.1 b := fun b hb => uJr_ne hb
      have cp : ∀ x, (uJr s D (va_cpy (s.2.1 a) (s.2.1 D) f (n * w) w)).2.1 D x = if n * w ≤ x ∧ x < n * w + w then s.2.1 a (f + (x - n * w)) else s.2.1 D x := fun x => by rw [uJr_row]; rfl
      refine ⟨hl, nmS (uJr s D (va_cpy (s.2.1 a) (s.2.1 D) f (n * w) w)) r0 S T n p (nI (n * w)), start _ ?_, ⟨fun b h1 h2 h3 => nmS_o h2 h1 h3, fun j hj => by rw [nmS_r hd, if_neg hj]; rfl, fun b hb => hU b hb, fun x hx => ?_, rfl⟩, ?_⟩
      · rw [if_neg (fun y => y z), if_pos (by rw [n_LT (by omega) (by omega)]; exact hl), emul, gd_true ⟨⟨nI_pos (by omega), nI_pos (by omega), nI_pos (by omega)⟩, by rw [n_cl (by omega), n_cl (by omega)]; exact hf, by rw [n_cl (by omega), n_cl (by omega)]; omega⟩, nm_eq, n_cl (by omega), n_cl (by omega), n_cl (by omega)]
        have q3 : (uJr s D (va_cpy (s.2.1 a) (s.2.1 D) f (n * w) w)).1 r0 3 = nI n := a1
        have q4 : (uJr s D (va_cpy (s.2.1 a) (s.2.1 D) f (n * w) w)).1 r0 4 = nI w := a2
        rw [q3, q4, emul, x_name (d := d + 1) hK' q3 (by omega) hp hd, bV_some]
        refine l65 _ n ?_
        rw [nmS_T hd, pk_us]
      · rw [show (nmS (uJr s D (va_cpy (s.2.1 a) (s.2.1 D) f (n * w) w)) r0 S T n p (nI (n * w))).2.1 = (uJr s D (va_cpy (s.2.1 a) (s.2.1 D) f (n * w) w)).2.1 from rfl, cp, if_neg (by omega)]
      · refine RW_add (s := s) (e := e) k7 hR' hd he (by rw [hP]; exact z) (fun b => by rw [hP]; rfl) (fun i hi j hj => ?_) hnw (fun j hj => ?_) ⟨by omega, by omega⟩
        · show (uJr s D (va_cpy (s.2.1 a) (s.2.1 D) f (n * w) w)).2.1 D (st i + j) = _
          have : (i + 1) * w ≤ n * w := Nat.mul_le_mul_right w hi
          rw [Nat.succ_mul] at this
          rw [cp, hst i hi, if_neg (by omega)]
        · show (uJr s D (va_cpy (s.2.1 a) (s.2.1 D) f (n * w) w)).2.1 D (n * w + j) = _
          rw [cp, if_pos (by omega), show f + (n * w + j - n * w) = f + j by omega]
          exact hg j hj
    · right
      refine ⟨by omega, start _ ?_⟩
      rw [if_neg (fun y => y z), if_neg (by rw [n_LT (by omega) (by omega)]; exact hl)]
  · left
    rw [hP] at z
    refine ⟨i, hi, c, start _ ?_⟩
    rw [if_pos (by rw [z]; exact nz_s (by omega))]
    exact l65 s i z
/-- a row of the data themselves -/
theorem x_refer (hK : rwK r0 D S T k) (hR : RW s r0 D S T k n w lim st R) (hd : r0 ≠ S ∧ r0 ≠ T ∧ S ≠ T) (hn : n + 1 < 2 ^ k ∧ n + 1 ≤ ln S) (hw : w < 2 ^ 20) (hf : f + w ≤ ln D) (hg : ∀ j, j < w → s.2.1 D (f + j) = g j) :
    (∃ i, i < n ∧ smR w R g i ∧ qev en (d + 3) 151 [.ref r0, .int (nI f)] s = some (some (.int (nI i)), s)) ∨
    ((∀ i, i < n → ¬ smR w R g i) ∧ ∃ s', qev en (d + 3) 151 [.ref r0, .int (nI f)] s = some (some (.int (nI n)), s') ∧ ((∀ b, b ≠ r0 → b ≠ S → b ≠ T → s'.1 b = s.1 b) ∧ (∀ j, j ≠ 3 → s'.1 r0 j = s.1 r0 j) ∧ s'.2 = s.2) ∧ RW s' r0 D S T k (n + 1) w lim (fun i => if i = n then f else st i) (fun i => if i = n then g else R i)) := by
  have hK' := hK
  have hR' := hR
  obtain ⟨k1, k2, k3, k4, k5, k6, k7, k8, k9, k10, k11⟩ := hK
  obtain ⟨e, he, e1⟩ := x_placeOf (en := en) (d := d) (a := D) hK' hR hw k5 hf (by omega) hg
  obtain ⟨a1, a2, a3, ⟨a4, a5⟩, a6, a7⟩ := hR
  have h2 : 2 ^ k ≤ 2 ^ 20 := Nat.pow_le_pow_right (by decide) k7
  have h3 := Nat.two_pow_pos k
  have hp : (hsJ k w g + e) % 2 ^ k < 2 ^ k := Nat.mod_lt _ h3
  generalize hP : (hsJ k w g + e) % 2 ^ k = p at e1 hp
  have start : ∀ r, (if ¬ (s.1 T p) = (0 : Int32) then L_X7_refer_25 en (d + 2) r0 (nI p) s else bV (qev en (d + 2) 152 [.ref r0, .int (nI p), .int (nI f)] s) (fun s7 => L_X7_refer_25 en (d + 2) r0 (nI p) s7)) = some r → qev en (d + 3) 151 [.ref r0, .int (nI f)] s = some r := by
    intro r hr
    refine le_X7_refer en (d + 2) _ _ _ _ ?_
    rw [gd_true k1, k2, e1, bI_some, k4, k6, gd_true (n_in hp (by omega)), n_cl (by omega)]
    exact hr
  have l25 : ∀ (s1 : qS) (i : Nat), s1.1 T p = nI (i + 1) → L_X7_refer_25 en (d + 2) r0 (nI p) s1 = some (some (.int (nI i)), s1) := by
    intro s1 i h
    refine le_X7_refer_25 en _ _ _ _ _ ?_
    rw [gd_true k1, k4, k6, gd_true (n_in hp (by omega)), n_cl (by omega), h, nI_pred]
  rcases he.2.2 with z | ⟨i, hi, z, c⟩
  · right
    refine ⟨tb_none a7 (by omega) he z (fun i _ h => sm_h h), ?_⟩
    rw [hP] at z
    refine ⟨nmS s r0 S T n p (nI f), start _ ?_, ⟨fun b h1 h2 h3 => nmS_o h2 h1 h3, fun j hj => by rw [nmS_r hd, if_neg hj], rfl⟩, ?_⟩
    · rw [if_neg (fun y => y z), x_name (d := d + 1) hK' a1 (by omega) hp hd, bV_some]
      refine l25 _ n ?_
      rw [nmS_T hd, pk_us]
    · exact RW_add (s := s) (e := e) k7 hR' hd he (by rw [hP]; exact z) (fun b => by rw [hP]) (fun i hi j hj => rfl) hf hg hn
  · left
    rw [hP] at z
    refine ⟨i, hi, c, start _ ?_⟩
    rw [if_pos (by rw [z]; exact nz_s (by omega))]
    exact l25 s i z
/-- an array filled -/
def flI (f : fI) (v : Int32) (n : Nat) : fI := fun j => if j < n then v else f j
theorem flI_s {F : fI} {v : Int32} {n : Nat} : upd (flI F v n) n v = flI F v (n + 1) := by
  funext j
  show (if j = n then v else if j < n then v else F j) = if j < n + 1 then v else F j
  by_cases q : j = n
  · rw [if_pos q, if_pos (by omega)]
  · rw [if_neg q]
    by_cases z : j < n
    · rw [if_pos z, if_pos (by omega)]
    · rw [if_neg z, if_neg (by omega)]
theorem uIr_u {σ : qS} {z j : Nat} {F : fI} {v : Int32} : uI (uIr σ z F) z j v = uIr σ z (upd F j v) := by
  refine Prod.ext (funext fun b => funext fun x => ?_) rfl
  show (if b = z ∧ x = j then v else if b = z then F x else σ.1 b x) = if b = z then (if x = j then v else F x) else σ.1 b x
  by_cases q : b = z
  · by_cases y : x = j
    · rw [if_pos ⟨q, y⟩, if_pos q, if_pos y]
    · rw [if_neg (fun w => y w.2), if_pos q, if_pos q, if_neg y]
  · rw [if_neg (fun w => q w.1), if_neg q, if_neg q]
theorem uIr_i {σ : qS} {z : Nat} : uIr σ z (σ.1 z) = σ := by
  refine Prod.ext (funext fun b => funext fun x => ?_) rfl
  show (if b = z then σ.1 z x else σ.1 b x) = σ.1 b x
  by_cases q : b = z
  · rw [if_pos q, q]
  · rw [if_neg q]
theorem x_fillI {z : Nat} {v : Int32} (hz : lc z = 20) (hl : ln z < 2 ^ 30) : qev en (d + 1) 435 [.ref z, .int v] s = some (none, uIr s z (flI (s.1 z) v (ln z))) := by
  have loop : ∀ (m i : Nat), i + m = ln z → L_J7_fill_53178_5 en d z v (nI i) (nI (ln z)) (uIr s z (flI (s.1 z) v i)) = some (none, uIr s z (flI (s.1 z) v (ln z))) := by
    intro m
    induction m with
    | zero =>
      intro i hi
      obtain rfl : i = ln z := by omega
      refine le_J7_fill_53178_5 en d _ _ _ _ _ _ ?_
      rw [gd_true hz, if_pos (Int32.le_refl _)]
    | succ m ih =>
      intro i hi
      refine le_J7_fill_53178_5 en d _ _ _ _ _ _ ?_
      rw [gd_true hz, if_neg (by rw [n_LE (by omega) (by omega)]; omega), gd_true (n_in (by omega) (by omega)), nm_eq, n_cl (by omega), uIr_u, flI_s, n_ar]
      exact ih (i + 1) (by omega)
  refine le_J7_fill_53178 en d _ _ _ _ ?_
  rw [gd_true hz]
  have h := loop (ln z) 0 (by omega)
  have e0 : flI (s.1 z) v 0 = s.1 z := by
    funext j
    exact if_neg (Nat.not_lt_zero j)
  rw [e0, uIr_i] at h
  exact h
/-- rows of a width, none yet -/
theorem x_clear {w' lim' : Nat} (hK : rwK r0 D S T k) (hd : r0 ≠ S ∧ r0 ≠ T ∧ S ≠ T) : ∃ s', qev en (d + 2) 146 [.ref r0, .int (nI w'), .int (nI lim')] s = some (none, s') ∧ (∀ b, b ≠ r0 → b ≠ T → s'.1 b = s.1 b) ∧ (∀ j, j ≠ 3 → j ≠ 4 → j ≠ 5 → s'.1 r0 j = s.1 r0 j) ∧ s'.2 = s.2 ∧ RW s' r0 D S T k 0 w' lim' (fun _ => 0) (fun _ => fun _ => 0) := by
  obtain ⟨k1, k2, k3, k4, k5, k6, k7, k8, k9, k10, k11⟩ := hK
  have h2 : 2 ^ k ≤ 2 ^ 20 := Nat.pow_le_pow_right (by decide) k7
  have h3 := Nat.two_pow_pos k
  have F : ∀ j, (uI (uI (uI s r0 4 (nI w')) r0 5 (nI lim')) r0 3 0).1 r0 j = if j = 3 then 0 else if j = 5 then nI lim' else if j = 4 then nI w' else s.1 r0 j := fun j => by
    rw [uI_row, uI_row, uI_row]; rfl
  refine ⟨uIr (uI (uI (uI s r0 4 (nI w')) r0 5 (nI lim')) r0 3 0) T (flI ((uI (uI (uI s r0 4 (nI w')) r0 5 (nI lim')) r0 3 0).1 T) 0 (2 ^ k)), le_X7_clear en (d + 1) _ _ _ _ _ ?_, fun b h1 h2 => ?_, fun j h1 h2 h3 => ?_, rfl, ?_, ?_, ?_, ⟨h3, Nat.zero_le _⟩, fun i hi => absurd hi (Nat.not_lt_zero i), ?_⟩
  · rw [gd_true k1, nm_eq, nm_eq, nm_eq, k4, x_fillI k11 (by omega), bV_some, k6]
  · rw [uIr_ne h2, uI_ne h1, uI_ne h1, uI_ne h1]
  · rw [uIr_ne hd.2.1, F, if_neg h1, if_neg h3, if_neg h2]
  · rw [uIr_ne hd.2.1, F, if_pos rfl]; rfl
  · rw [uIr_ne hd.2.1, F, if_neg (by decide), if_neg (by decide), if_pos rfl]
  · rw [uIr_ne hd.2.1, F, if_neg (by decide), if_pos rfl]
  · rw [uIr_row]
    exact tb_cg (fun p hp => if_pos hp) h3 (tb_0 h3)
end RWp

