/-! WHERE LINES GO ON: the class's ways, the model's flow. -/
/-- a line, or none, on both sides -/
abbrev nx2 (a b : Int32) (M : Nat) : Prop := (a = -1 ∧ b = -2) ∨ ∃ j, j < M ∧ a = nI j ∧ b = nI j
/-- the lines of program r of the class and version v of the model, as far as ways go -/
abbrev lwI (r v N : Nat) (s t : qS) : Prop := ∀ i, i < N → (∃ k, k < 19 ∧ s.1 (r + 7) i = nI k ∧ t.1 164 (100 * v + i) = nI k) ∧ nx2 (s.1 (r + 17) i) (t.1 171 (100 * v + i)) N ∧ nx2 (s.1 (r + 18) i) (t.1 169 (100 * v + i)) i ∧ nx2 (s.1 (r + 20) i) (t.1 172 (100 * v + i)) N ∧ nx2 (s.1 (r + 21) i) (t.1 173 (100 * v + i)) N
/-- what is behind line i, within so many blocks -/
def bhS (nx pa kd : fI) : Nat → Nat → Int32
  | 0, _ => -1
  | k + 1, i => if nx i < 0 then (if pa i < 0 then pa i else if kd (clp (pa i)) = 18 then pa i else bhS nx pa kd k (clp (pa i))) else nx i
abbrev bhR (s : qS) (r i : Nat) : Int32 := bhS (s.1 (r + 17)) (s.1 (r + 18)) (s.1 (r + 7)) (i + 1) i
abbrev itV (s : qS) (r i : Nat) : Int32 := if s.1 (r + 20) i < 0 then (if s.1 (r + 7) i = 18 then nI i else bhR s r i) else s.1 (r + 20) i
abbrev elV (s : qS) (r i : Nat) : Int32 := if s.1 (r + 21) i < 0 then bhR s r i else s.1 (r + 21) i
section LWY
variable {en : pN} {d d' k i n N j r v : Nat} {s s' t t' : qS} {nx pa kd : fI}
theorem nx2_lt {a b : Int32} (h : nx2 a b N) (hN : N ≤ 100) : (a < 0 ∧ a = -1 ∧ b = -2) ∨ ∃ j, j < N ∧ a = nI j ∧ b = nI j ∧ ¬ nI j < (0 : Int32) := by
  rcases h with ⟨rfl, rfl⟩ | ⟨j, h1, rfl, rfl⟩
  · exact Or.inl ⟨by decide, rfl, rfl⟩
  · exact Or.inr ⟨j, h1, rfl, rfl, by rw [n_gt (by decide) (by omega)]; omega⟩
/-- enough blocks -/
theorem bhS_eq (hp : ∀ i, i < N → pa i < 0 ∨ ∃ p, p < i ∧ pa i = nI p) (hN : N ≤ 100) : ∀ (i k : Nat), i < N → i + 1 ≤ k → bhS nx pa kd k i = bhS nx pa kd (i + 1) i := by
  intro i
  induction i using Nat.strongRecOn with
  | ind i ih =>
    intro k hi hk
    obtain ⟨k, rfl⟩ : ∃ k', k = k' + 1 := ⟨k - 1, by omega⟩
    unfold bhS
    by_cases q : nx i < 0
    · rw [if_pos q, if_pos q]
      by_cases q2 : pa i < 0
      · rw [if_pos q2, if_pos q2]
      · rw [if_neg q2, if_neg q2]
        obtain ⟨p, p1, p2⟩ := (hp i hi).resolve_left q2
        rw [p2, n_clp (by omega)]
        by_cases q3 : kd p = 18
        · rw [if_pos q3, if_pos q3]
        · rw [if_neg q3, if_neg q3, ih p p1 k (by omega) (by omega), ih p p1 i (by omega) (by omega)]
    · rw [if_neg q, if_neg q]
theorem lw_pa (h : lwI r v N s t) (hN : N ≤ 100) : ∀ i, i < N → s.1 (r + 18) i < 0 ∨ ∃ p, p < i ∧ s.1 (r + 18) i = nI p := fun i hi => by
  rcases (h i hi).2.2.1 with ⟨h1, -⟩ | ⟨p, h1, h2, -⟩
  · left; rw [h1]; decide
  · exact Or.inr ⟨p, h1, h2⟩
theorem bhR_step (h : lwI r v N s t) (hN : N ≤ 100) (hi : i < N) : bhR s r i = if s.1 (r + 17) i < 0 then (if s.1 (r + 18) i < 0 then s.1 (r + 18) i else if s.1 (r + 7) (clp (s.1 (r + 18) i)) = 18 then s.1 (r + 18) i else bhR s r (clp (s.1 (r + 18) i))) else s.1 (r + 17) i := by
  show bhS _ _ _ (i + 1) i = _
  unfold bhS
  by_cases q : s.1 (r + 17) i < 0
  · rw [if_pos q, if_pos q]
    by_cases q2 : s.1 (r + 18) i < 0
    · rw [if_pos q2, if_pos q2]
    · rw [if_neg q2, if_neg q2]
      obtain ⟨p, p1, p2⟩ := (lw_pa h hN i hi).resolve_left q2
      rw [p2, n_clp (by omega)]
      by_cases q3 : s.1 (r + 7) p = 18
      · rw [if_pos q3, if_pos q3]
      · rw [if_neg q3, if_neg q3]
        exact bhS_eq (lw_pa h hN) hN p i (by omega) (by omega)
  · rw [if_neg q, if_neg q]
/-- the class's search for what is behind -/
theorem x_behindL (hr : r = 11 ∨ r = 36) (h : lwI r v N s t) (hN : N ≤ 100) : ∀ (k w i : Nat), w + k = 100 → i < N → L_X5_behind_4 en d r (nI i) (nI w) s = some (some (.int (bhS (s.1 (r + 17)) (s.1 (r + 18)) (s.1 (r + 7)) k i)), s) := by
  have lr : lc r = 5 := by rcases hr with rfl | rfl <;> rfl
  intro k
  induction k with
  | zero =>
    intro w i hw hi
    refine le_X5_behind_4 en _ _ _ _ _ _ ?_
    rw [gd_true lr, if_pos (by rw [n_le (by decide) (by omega)]; omega)]
    rfl
  | succ k ih =>
    intro w i hw hi
    refine le_X5_behind_4 en _ _ _ _ _ _ ?_
    rw [gd_true lr, if_neg (by rw [n_le (by decide) (by omega)]; omega), gd_in (by omega) (by decide), n_cl (by omega)]
    unfold bhS
    by_cases q : s.1 (r + 17) i < 0
    · rw [if_pos q, if_pos q, nm_eq]
      by_cases q2 : s.1 (r + 18) i < 0
      · rw [if_pos q2, if_pos q2]
      · obtain ⟨p, p1, p2⟩ := (lw_pa h hN i hi).resolve_left q2
        rw [if_neg q2, if_neg q2, p2, gd_in (by omega) (by decide), n_cl (by omega), n_clp (by omega)]
        by_cases q3 : s.1 (r + 7) p = 18
        · rw [if_neg (not_not_intro q3), if_pos q3]
        · rw [if_pos q3, if_neg q3, show nI w + (1 : Int32) = nI (w + 1) from n_ar]
          exact ih (w + 1) p (by omega) (by omega)
    · rw [if_neg q, if_neg q]
theorem x_behind (hr : r = 11 ∨ r = 36) (h : lwI r v N s t) (hN : N ≤ 100) (hi : i < N) : qev en (d + 1) 102 [.ref r, .int (nI i)] s = some (some (.int (bhR s r i)), s) := by
  have lr : lc r = 5 := by rcases hr with rfl | rfl <;> rfl
  refine le_X5_behind en _ _ _ _ _ ?_
  rw [gd_true lr]
  have e := x_behindL (en := en) (d := d) hr h hN 100 0 i rfl hi
  rw [bhS_eq (lw_pa h hN) hN i 100 hi (by omega)] at e
  exact e
theorem lwI_fr (h : lwI r v N s t) (h1 : ∀ a, a = 7 ∨ a = 17 ∨ a = 18 ∨ a = 20 ∨ a = 21 → s'.1 (r + a) = s.1 (r + a)) (h2 : ∀ a, a = 164 ∨ a = 169 ∨ a = 171 ∨ a = 172 ∨ a = 173 → t'.1 a = t.1 a) : lwI r v N s' t' := by
  unfold lwI
  rw [h1 7 (by omega), h1 17 (by omega), h1 18 (by omega), h1 20 (by omega), h1 21 (by omega), h2 164 (by omega), h2 169 (by omega), h2 171 (by omega), h2 172 (by omega), h2 173 (by omega)]
  exact h
/-- the class's ways -/
theorem x_layL (hr : r = 11 ∨ r = 36) (hN : N ≤ 100) : ∀ (z i : Nat) (s : qS), i + z = N → lwI r v N s t → s.1 r 12 = nI N → ∃ s', L_X5_layWays_2 en (d + 1) r (nI i) s = some (none, s') ∧ (∀ a, a ≠ r + 22 → a ≠ r + 23 → s'.1 a = s.1 a) ∧ s'.2 = s.2 ∧ (∀ j, j < i → s'.1 (r + 22) j = s.1 (r + 22) j ∧ s'.1 (r + 23) j = s.1 (r + 23) j) ∧ ∀ j, i ≤ j → j < N → s'.1 (r + 22) j = itV s r j ∧ s'.1 (r + 23) j = elV s r j := by
  have lr : lc r = 5 := by rcases hr with rfl | rfl <;> rfl
  have l22 : lc (r + 22) = 20 ∧ ln (r + 22) = 100 := by rcases hr with rfl | rfl <;> exact ⟨rfl, rfl⟩
  have l23 : lc (r + 23) = 20 ∧ ln (r + 23) = 100 := by rcases hr with rfl | rfl <;> exact ⟨rfl, rfl⟩
  intro z
  induction z with
  | zero =>
    intro i s hi h h12
    refine ⟨s, le_X5_layWays_2 en _ _ _ _ _ ?_, fun _ _ _ => rfl, rfl, fun _ _ => ⟨rfl, rfl⟩, fun j h1 h2 => absurd h2 (by omega)⟩
    rw [gd_true lr, h12, if_pos (by rw [n_LE (by omega) (by omega)]; omega)]
  | succ z ih =>
    intro i s hi h h12
    have hi' : i < N := by omega
    let s1 : qS := uI s (r + 22) i (itV s r i)
    let s2 : qS := uI s1 (r + 23) i (elV s r i)
    have f2 : ∀ a, a ≠ r + 22 → a ≠ r + 23 → s2.1 a = s.1 a := fun a h1 h2 => (uI_ne h2).trans (uI_ne h1)
    have e21 : s1.1 (r + 21) = s.1 (r + 21) := uI_ne (by omega)
    obtain ⟨s', a1, a2, a3, a4, a5⟩ := ih (i + 1) s2 (by omega) (lwI_fr h (fun a ha => f2 _ (by omega) (by omega)) (fun _ _ => rfl)) (by rw [f2 r (by omega) (by omega)]; exact h12)
    have b22 : s2.1 (r + 22) i = itV s r i := by show (uI s1 (r + 23) i _).1 (r + 22) i = _; rw [uI_ne (by omega), rdW]
    have b23 : s2.1 (r + 23) i = elV s r i := rdW
    have ebh : ∀ j, bhR s2 r j = bhR s r j := fun j => by
      show bhS (s2.1 (r + 17)) (s2.1 (r + 18)) (s2.1 (r + 7)) (j + 1) j = bhS (s.1 (r + 17)) (s.1 (r + 18)) (s.1 (r + 7)) (j + 1) j
      rw [f2 (r + 17) (by omega) (by omega), f2 (r + 18) (by omega) (by omega), f2 (r + 7) (by omega) (by omega)]
    refine ⟨s', le_X5_layWays_2 en _ _ _ _ _ ?_, fun a h1 h2 => (a2 a h1 h2).trans (f2 a h1 h2), a3, fun j hj => ⟨?_, ?_⟩, fun j h1 h2 => ?_⟩
    · have hE : L_X5_layWays_76 en (d + 1) r (nI i) (bhR s r i) (r + 22) (nI i) (itV s r i) s = some (none, s') := by
        have g110 : L_X5_layWays_110 en (d + 1) r (nI i) (r + 23) (nI i) (elV s r i) s1 = some (none, s') := by
          refine le_X5_layWays_110 en _ _ _ _ _ _ _ _ ?_
          rw [gd_true lr, gd_true l23.1, l23.2, gd_in (by omega) (by decide), n_cl (by omega), nm_eq, show nI i + (1 : Int32) = nI (i + 1) from n_ar]
          exact a1
        refine le_X5_layWays_76 en _ _ _ _ _ _ _ _ _ ?_
        rw [gd_true lr, gd_true l22.1, l22.2, gd_in (by omega) (by decide), n_cl (by omega), nm_eq, gd_in (by omega) (by decide)]
        show (if s1.1 (r + 21) i < (0 : Int32) then L_X5_layWays_110 en (d + 1) r (nI i) (r + 23) (nI i) (bhR s r i) s1 else L_X5_layWays_110 en (d + 1) r (nI i) (r + 23) (nI i) (s1.1 (r + 21) i) s1) = _
        rw [e21]
        by_cases q : s.1 (r + 21) i < 0
        · have e : elV s r i = bhR s r i := if_pos q
          rw [e] at g110
          rw [if_pos q]; exact g110
        · have e : elV s r i = s.1 (r + 21) i := if_neg q
          rw [e] at g110
          rw [if_neg q]; exact g110
      have h34 : L_X5_layWays_34 en (d + 1) r (nI i) (bhR s r i) (if s.1 (r + 7) i = 18 then 1 else 0) s = some (none, s') := by
        refine le_X5_layWays_34 en _ _ _ _ _ _ _ ?_
        rw [gd_true lr, gd_in (by omega) (by decide), n_cl (by omega)]
        by_cases q : s.1 (r + 20) i < 0
        · rw [if_pos q]
          by_cases q2 : s.1 (r + 7) i = 18
          · have e : itV s r i = nI i := by show (if _ then _ else _) = _; rw [if_pos q, if_pos q2]
            rw [e] at hE
            rw [if_pos q2, if_neg (by decide)]; exact hE
          · have e : itV s r i = bhR s r i := by show (if _ then _ else _) = _; rw [if_pos q, if_neg q2]
            rw [e] at hE
            rw [if_neg q2, if_pos rfl]; exact hE
        · have e : itV s r i = s.1 (r + 20) i := if_neg q
          rw [e] at hE
          rw [if_neg q]; exact hE
      rw [gd_true lr, h12, if_neg (by rw [n_LE (by omega) (by omega)]; omega), x_behind hr h hN hi', bI_some, gd_in (by omega) (by decide), n_cl (by omega)]
      by_cases q2 : s.1 (r + 7) i = 18
      · rw [if_neg (not_not_intro q2)]
        rw [if_pos q2] at h34; exact h34
      · rw [if_pos q2]
        rw [if_neg q2] at h34; exact h34
    · rw [(a4 j (by omega)).1]
      show (uI s1 (r + 23) i _).1 (r + 22) j = _
      rw [uI_ne (by omega), rdU, if_neg (by omega)]
    · rw [(a4 j (by omega)).2]
      show (uI s1 (r + 23) i _).1 (r + 23) j = _
      rw [rdU, if_neg (by omega), uI_ne (by omega)]
    · by_cases q : j = i
      · rw [q, (a4 i (by omega)).1, (a4 i (by omega)).2]
        exact ⟨b22, b23⟩
      · obtain ⟨c1, c2⟩ := a5 j (by omega) h2
        rw [c1, c2]
        show (if s2.1 (r + 20) j < 0 then (if s2.1 (r + 7) j = 18 then nI j else bhR s2 r j) else s2.1 (r + 20) j) = _ ∧ (if s2.1 (r + 21) j < 0 then bhR s2 r j else s2.1 (r + 21) j) = _
        rw [ebh, f2 (r + 20) (by omega) (by omega), f2 (r + 21) (by omega) (by omega), f2 (r + 7) (by omega) (by omega)]
        exact ⟨rfl, rfl⟩
theorem x_layWays (hr : r = 11 ∨ r = 36) (hN : N ≤ 100) (h : lwI r v N s t) (h12 : s.1 r 12 = nI N) : ∃ s', qev en (d + 2) 101 [.ref r] s = some (none, s') ∧ (∀ a, a ≠ r + 22 → a ≠ r + 23 → s'.1 a = s.1 a) ∧ s'.2 = s.2 ∧ ∀ j, j < N → s'.1 (r + 22) j = itV s r j ∧ s'.1 (r + 23) j = elV s r j := by
  have lr : lc r = 5 := by rcases hr with rfl | rfl <;> rfl
  obtain ⟨s', a1, a2, a3, -, a5⟩ := x_layL (en := en) (d := d) hr hN N 0 s (Nat.zero_add N) h h12
  refine ⟨s', le_X5_layWays en _ _ _ _ ?_, a2, a3, fun j hj => a5 j (Nat.zero_le j) hj⟩
  rw [gd_true lr]
  exact a1
/-- the model's flow -/
theorem m_layL (hv : v ≤ 3) (hN : N ≤ 100) : ∀ (z i : Nat) (t : qS), i + z = N → lwI r v N s t → t.1 151 32 = nI N → (∀ j, j < i → nx2 (bhR s r j) (t.1 174 (100 * v + j)) N) → ∃ t', L_X12_layFlow_7 en d (nI (100 * v)) (nI (100 * v + i)) t = some (none, t') ∧ (∀ a, a ≠ 174 → t'.1 a = t.1 a) ∧ (∀ j, j < 100 * v ∨ 100 * v + N ≤ j → t'.1 174 j = t.1 174 j) ∧ t'.2 = t.2 ∧ ∀ j, j < N → nx2 (bhR s r j) (t'.1 174 (100 * v + j)) N := by
  intro z
  induction z with
  | zero =>
    intro i t hi h h32 hj
    have e : i = N := by omega
    refine ⟨t, le_X12_layFlow_7 en _ _ _ _ _ ?_, fun _ _ => rfl, fun _ _ => rfl, rfl, by rw [← e]; rw [e] at hj ⊢; exact hj⟩
    rw [h32, show nI (100 * v) + nI N = nI (100 * v + N) from nI_add _ _, if_pos (by rw [n_LE (by omega) (by omega)]; omega)]
  | succ z ih =>
    intro i t hi h h32 hj
    have hi' : i < N := by omega
    obtain ⟨⟨k, k1, k2, k3⟩, hnx, hpa, -, -⟩ := h i hi'
    have key : ∃ w, nx2 (bhR s r i) w N ∧ ∀ q, L_X12_layFlow_90 en d (nI (100 * v)) (nI (100 * v + i)) (nI (100 * v + i)) w t = some q → L_X12_layFlow_7 en d (nI (100 * v)) (nI (100 * v + i)) t = some q := by
      have pre : ∀ q, (if (t.1 171 (100 * v + i)) = (-2 : Int32) then if ¬ t.1 169 (100 * v + i) = (-2 : Int32) then gd (p_inB (nI (100 * v) + t.1 169 (100 * v + i)) 400 = true) (if ¬ (t.1 164 (nI (100 * v) + t.1 169 (100 * v + i)).toNatClampNeg) = (18 : Int32) then L_X12_layFlow_90 en d (nI (100 * v)) (nI (100 * v + i)) (nI (100 * v + i)) (t.1 174 (nI (100 * v) + t.1 169 (100 * v + i)).toNatClampNeg) t else L_X12_layFlow_90 en d (nI (100 * v)) (nI (100 * v + i)) (nI (100 * v + i)) (t.1 169 (100 * v + i)) t) else L_X12_layFlow_90 en d (nI (100 * v)) (nI (100 * v + i)) (nI (100 * v + i)) (-2 : Int32) t else L_X12_layFlow_90 en d (nI (100 * v)) (nI (100 * v + i)) (nI (100 * v + i)) (t.1 171 (100 * v + i)) t) = some q → L_X12_layFlow_7 en d (nI (100 * v)) (nI (100 * v + i)) t = some q := fun q hq => by
        refine le_X12_layFlow_7 en _ _ _ _ _ ?_
        rw [h32, show nI (100 * v) + nI N = nI (100 * v + N) from nI_add _ _, if_neg (by rw [n_LE (by omega) (by omega)]; omega), gd_in (by omega) (by decide), n_cl (by omega), nm_eq]
        exact hq
      have hb := bhR_step h hN hi'
      rcases nx2_lt hnx hN with ⟨a1, a2, a3⟩ | ⟨j, a1, a2, a3, a4⟩
      · rw [if_pos a1] at hb
        rcases hpa with ⟨b1, b2⟩ | ⟨p, b1, b2, b3⟩
        · refine ⟨-2, Or.inl ⟨?_, rfl⟩, fun q hq => pre q ?_⟩
          · rw [hb, b1, if_pos (by decide)]
          · rw [if_pos a3, b2, if_neg (not_not_intro rfl)]
            exact hq
        · obtain ⟨⟨kp, kp1, kp2, kp3⟩, -⟩ := h p (by omega)
          have ep : nI (100 * v) + nI p = nI (100 * v + p) := nI_add _ _
          rw [b2, if_neg (by rw [n_gt (by decide) (by omega)]; omega), n_clp (by omega)] at hb
          by_cases q18 : kp = 18
          · refine ⟨nI p, Or.inr ⟨p, by omega, ?_, rfl⟩, fun q hq => pre q ?_⟩
            · rw [hb, if_pos (by rw [kp2, q18]; rfl)]
            · rw [if_pos a3, b3, if_pos (fun z => (n_m2 (by omega)).mp z), ep, gd_in (by omega) (by decide), n_cl (by omega), kp3, if_neg (by rw [q18]; exact not_not_intro rfl)]
              exact hq
          · refine ⟨t.1 174 (100 * v + p), ?_, fun q hq => pre q ?_⟩
            · rw [hb, if_neg (by rw [kp2, n_eq (by decide) (by omega)]; exact q18)]
              exact hj p b1
            · rw [if_pos a3, b3, if_pos (fun z => (n_m2 (by omega)).mp z), ep, gd_in (by omega) (by decide), n_cl (by omega), kp3, if_pos (by rw [n_eq (by decide) (by omega)]; exact q18)]
              exact hq
      · refine ⟨nI j, Or.inr ⟨j, a1, ?_, rfl⟩, fun q hq => pre q ?_⟩
        · rw [hb, a2, if_neg a4]
        · rw [a3, if_neg (fun z => (n_m2 (by omega)).mp z)]
          exact hq
    obtain ⟨w, w1, w2⟩ := key
    have f1 : ∀ a, a ≠ 174 → (uI t 174 (100 * v + i) w).1 a = t.1 a := fun a ha => uI_ne ha
    obtain ⟨t', a1, a2, a3, a4, a5⟩ := ih (i + 1) (uI t 174 (100 * v + i) w) (by omega) (lwI_fr h (fun _ _ => rfl) (fun a ha => f1 a (by omega))) (by rw [f1 151 (by decide)]; exact h32) (fun j hj' => by
      rw [rdU]
      by_cases q : j = i
      · rw [if_pos ⟨rfl, by rw [q]⟩, q]; exact w1
      · rw [if_neg (by omega)]; exact hj j (by omega))
    refine ⟨t', w2 _ (le_X12_layFlow_90 en _ _ _ _ _ _ _ ?_), fun a ha => (a2 a ha).trans (f1 a ha), fun j hj' => (a3 j hj').trans (by rw [rdU, if_neg (by omega)]), a4, a5⟩
    rw [gd_in (by omega) (by decide), n_cl (by omega), nm_eq, show nI (100 * v + i) + (1 : Int32) = nI (100 * v + (i + 1)) from n_ar]
    exact a1
theorem m_layFlow (hv : v ≤ 3) (hN : N ≤ 100) (h : lwI r v N s t) (h32 : t.1 151 32 = nI N) : ∃ t', qev en (d + 1) 292 [.ref 151, .int (nI v)] t = some (none, t') ∧ (∀ a, a ≠ 174 → t'.1 a = t.1 a) ∧ (∀ j, j < 100 * v ∨ 100 * v + N ≤ j → t'.1 174 j = t.1 174 j) ∧ t'.2 = t.2 ∧ ∀ j, j < N → nx2 (bhR s r j) (t'.1 174 (100 * v + j)) N := by
  obtain ⟨t', a1, a2⟩ := m_layL (en := en) (d := d) (s := s) (r := r) hv hN N 0 t (Nat.zero_add N) h h32 (fun j hj => absurd hj (Nat.not_lt_zero j))
  refine ⟨t', le_X12_layFlow en _ _ _ _ ?_, a2⟩
  rw [show (100 : Int32) * nI v = nI (100 * v) from n_ml]
  exact a1
end LWY
