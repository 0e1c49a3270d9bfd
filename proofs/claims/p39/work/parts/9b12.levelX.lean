/-! SWITCHES, the class's side: levels. -/
/-- the tables of steps that the count reads -/
abbrev swE (P : Nat → fI) (w nt : Nat) (X : xT) (s : qS) : Prop := (∀ e, e < xM X → s.1 90 e = nI ((xE X e).1 * 64 + stN (xE X e).2)) ∧ (∀ i, i < xN X + 1 → s.1 92 i = nI (xA X i)) ∧ ∀ i, i < xN X → s.1 93 i = nI (mrkN (xWh X i) (rdl P w (xS X i) nt nt) (soS (xS X i) nt) (outN P w nt (xS X) i))
section SWL
variable {en : pN} {d d' w nc nl nt n p L v c la lb k l e : Nat} {P : Nat → fI} {τ s s' s'' : qS} {X : xT} {fw : Bool} {T T' T'' A A' A'' B : Nat → Nat}
theorem swE.fr (h : swE P w nt X s) (g : swF s s') : swE P w nt X s' := ⟨fun e he => by rw [g.1 90 (by decide) (by decide) (by decide) (by decide)]; exact h.1 e he, fun i hi => by rw [g.1 92 (by decide) (by decide) (by decide) (by decide)]; exact h.2.1 i hi, fun i hi => by rw [g.1 93 (by decide) (by decide) (by decide) (by decide)]; exact h.2.2 i hi⟩
theorem n_d4 {z : Nat} (h : z < 2 ^ 31) : nI z / (4 : Int32) = nI (z / 4) := n_dv (m := 4) h (by decide)
theorem n_m4 {z : Nat} (h : z < 2 ^ 31) : nI z - nI z / (4 : Int32) * (4 : Int32) = nI (z % 4) := by
  rw [n_d4 h, n_mr, n_sub (by show z / 4 * 4 ≤ z; omega)]
  congr 1
  show z - z / 4 * 4 = z % 4
  omega
/-- all steps from a node -/
theorem x_leave38 (hX : XV P w nc nl nt n X) (hJ : XJ X (xN X + 1)) (hL : L ≤ 80000) (hk : k < xN X) (hl : l < 4) {g : Bool} (hg : g = (rdl P w (xS X k) nt nt).any (fun a => decide (a / 10 = l))) :
    ∀ (m e : Nat) (s : qS) (T A B : Nat → Nat) (la lb : Nat), e + m = xA X (k + 1) → xA X k ≤ e → swE P w nt X s → swP s T A B la lb → s.1 70 16 = nI lb → swV P w nt X L T A B la lb → T (4 * k + l) = L → (∀ e', xA X k ≤ e' → e' < e → T (4 * (xE X e').1 + (xE X e').2 / 10) ≤ L + cstS P w nt X k l ((xE X e').2 / 10)) →
    ∃ (s' : qS) (T' A' B' : Nat → Nat) (la' lb' : Nat), L_X10_leaveFrom_38 en (d + 2) (nI L) (nI k) (nI l) (bt g) (nI e) s = some (none, s') ∧ swF s s' ∧ swP s' T' A' B' la' lb' ∧ s'.1 70 16 = nI lb' ∧ swV P w nt X L T' A' B' la' lb' ∧ swG L T T' A A' la la' ∧ clK P w nt X (fun k l => T' (4 * k + l)) k l := by
  have hlim := @lim_le w
  have hxN := hX.1.2
  have hxM := hX.2.2.2.1
  have hJm := hJ.2.1 (k + 1) (by omega)
  intro m
  induction m with
  | zero =>
    intro e s T A B la lb he hke hE hP' h16 hI hT hr
    refine ⟨s, T, A, B, la, lb, le_X10_leaveFrom_38 en _ _ _ _ _ _ _ _ ?_, swF.rf, hP', h16, hI, swG.rf, fun e' a b => ?_⟩
    · rw [show nI k + (1 : Int32) = nI (k + 1) from n_ar, gd_true (n_in (by omega) (by decide)), n_cl (by omega), hE.2.1 (k + 1) (by omega), if_pos (by rw [n_LE (by omega) (by omega)]; omega)]
    · show T (4 * (xE X e').1 + (xE X e').2 / 10) ≤ T (4 * k + l) + _
      rw [hT]; exact hr e' a (by omega)
  | succ m ih =>
    intro e s T A B la lb he hke hE hP' h16 hI hT hr
    obtain ⟨eN, e40⟩ := hX.2.2.2.2.1 e (by omega)
    have hv : 4 * (xE X e).1 + (xE X e).2 / 10 < 4 * xN X := by omega
    generalize ht : (xE X e).2 / 10 = t at hv
    have ht4 : t < 4 := by omega
    have hcst : cstS P w nt X k l t ≤ 1 := by unfold cstS; split <;> omega
    have hsU : ∀ U, clT P w nt X U → (∀ k, k < xN X → ∀ l, l < 4 → U k l ≤ 200000) → U ((4 * (xE X e).1 + t) / 4) ((4 * (xE X e).1 + t) % 4) ≤ L + cstS P w nt X k l t := fun U hU hb => by
      rw [show (4 * (xE X e).1 + t) / 4 = (xE X e).1 by omega, show (4 * (xE X e).1 + t) % 4 = t by omega]
      have h1 := hU.2 k hk l hl e hke (by omega)
      have h2 := hI.2.1 U hU hb k hk l hl
      rw [ht] at h1
      rw [hT] at h2
      omega
    obtain ⟨s1, T1, A1, B1, la1, lb1, r1, r2, r3, r4, -, r6, r7, r8⟩ := x_reach (en := en) (d := d + 1) (c := cstS P w nt X k l t) (by omega) hL hP' (by
      rcases Nat.lt_or_ge (cstS P w nt X k l t) 1 with z | z
      · exact Or.inl (by omega)
      · exact Or.inr ⟨by omega, h16⟩) hI hv hsU
    obtain ⟨s2, T2, A2, B2, la2, lb2, q1, q2, q3, q4, q5, q6, q7⟩ := ih (e + 1) s1 T1 A1 B1 la1 lb1 (by omega) (by omega) (hE.fr r2) r3 (r4 h16) r6 (by rw [r7.2.1 _ (by rw [hT]; exact Nat.le_refl _)]; exact hT) (fun e' a b => by
      by_cases z : e' = e
      · rw [z, ht]; exact r8
      · exact Nat.le_trans (r7.1 _) (hr e' a (by omega)))
    refine ⟨s2, T2, A2, B2, la2, lb2, le_X10_leaveFrom_38 en _ _ _ _ _ _ _ _ ?_, r2.tr q2, q3, q4, q5, r7.tr q6, q7⟩
    have l97 : ∀ x : Int32, x = nI (cstS P w nt X k l t) → L_X10_leaveFrom_97 en (d + 2) (nI L) (nI k) (nI l) (bt g) (nI e) (nI (4 * (xE X e).1 + t)) (nI L) x s = some (none, s2) := fun x hx => by
      refine le_X10_leaveFrom_97 en _ _ _ _ _ _ _ _ _ _ _ ?_
      rw [hx, r1, bV_some, show nI e + (1 : Int32) = nI (e + 1) from n_ar]
      exact q1
    have e188 := x_threadOf (en := en) (d := d + 1) (τ := s) (a := (xE X e).2) (t := (xE X e).1) e40 (by omega)
    have e187 := x_stateOf (en := en) (d := d + 1) (τ := s) (a := (xE X e).2) (t := (xE X e).1) e40 (by omega)
    rw [ht] at e188
    rw [show nI k + (1 : Int32) = nI (k + 1) from n_ar, gd_true (n_in (by omega) (by decide)), n_cl (by omega), hE.2.1 (k + 1) (by omega), if_neg (by rw [n_LE (by omega) (by omega)]; omega), gd_true (n_in (by omega) (by decide)), n_cl (by omega), hE.1 e (by omega), e188, bI_some, hE.1 e (by omega), e187, bI_some, n_mr, show (xE X e).1 * (4 : Nat) = 4 * (xE X e).1 from Nat.mul_comm _ _, nI_add]
    by_cases z : t = l
    · rw [if_pos (by rw [z])]
      refine l97 _ ?_
      unfold cstS
      rw [if_neg (fun y => y.1 z.symm)]
      rfl
    rw [if_neg (by rw [n_EQ (by omega) (by omega)]; exact z)]
    cases hg' : g with
    | false =>
      rw [if_pos (show bt false = (0 : Int32) from rfl)]
      rw [hg'] at l97
      refine l97 _ ?_
      unfold cstS
      rw [if_neg (fun y => by rw [← hg, hg'] at y; exact absurd y.2 (by decide))]
      rfl
    | true =>
      rw [if_neg (show ¬ bt true = (0 : Int32) by decide)]
      rw [hg'] at l97
      refine l97 _ ?_
      unfold cstS
      rw [if_pos ⟨fun y => z y.symm, by rw [← hg, hg']⟩]
      rfl
theorem x_leave (hP : PV P nc nl nt n) (hX : XV P w nc nl nt n X) (hJ : XJ X (xN X + 1)) (hL : L ≤ 80000) (hv : v < 4 * xN X) (hE : swE P w nt X s) (hP' : swP s T A B la lb) (h16 : s.1 70 16 = nI lb) (hI : swV P w nt X L T A B la lb) (hT : T v = L) :
    ∃ (s' : qS) (T' A' B' : Nat → Nat) (la' lb' : Nat), qev en (d + 3) 194 [.ref 70, .int (nI v), .int (nI L)] s = some (none, s') ∧ swF s s' ∧ swP s' T' A' B' la' lb' ∧ s'.1 70 16 = nI lb' ∧ swV P w nt X L T' A' B' la' lb' ∧ swG L T T' A A' la la' ∧ clK P w nt X (fun k l => T' (4 * k + l)) (v / 4) (v % 4) := by
  have hlim := @lim_le w
  have hxN := hX.1.2
  have hxM := hX.2.2.2.1
  have hk : v / 4 < xN X := by omega
  have hl : v % 4 < 4 := by omega
  have ev : 4 * (v / 4) + v % 4 = v := by omega
  generalize v / 4 = k at hk ev
  generalize v % 4 = l at hl ev
  subst ev
  have hSk := hX.2.1 k hk
  have h40 : ∀ a ∈ rdl P w (xS X k) nt nt, a < 40 := fun a ha => rdl_lt hP hSk ha
  have hA0 := hJ.1 k (k + 1) (by omega) (by omega)
  obtain ⟨s2, T2, A2, B2, la2, lb2, q1, q⟩ := x_leave38 (en := en) (d := d) hX hJ hL hk hl rfl (xA X (k + 1) - xA X k) (xA X k) s T A B la lb (by omega) (Nat.le_refl _) hE hP' h16 hI hT (fun e' a b => by omega)
  refine ⟨s2, T2, A2, B2, la2, lb2, le_X10_leaveFrom en _ _ _ _ _ ?_, q⟩
  have l28 : ∀ g : Bool, g = (rdl P w (xS X k) nt nt).any (fun a => decide (a / 10 = l)) → L_X10_leaveFrom_28 en (d + 2) (nI L) (nI k) (nI l) (bt g) s = some (none, s2) := fun g hg => by
    refine le_X10_leaveFrom_28 en _ _ _ _ _ _ _ ?_
    rw [gd_true (n_in (by omega) (by decide)), nm_eq, n_cl (by omega), hE.2.1 k (by omega), hg]
    exact q1
  rw [nm_eq, n_m4 (by omega), n_d4 (by omega), show (4 * k + l) % 4 = l by omega, show (4 * k + l) / 4 = k by omega, gd_true (n_in (by omega) (by decide)), n_cl (by omega), hE.2.2 k hk, bitI (by omega)]
  have hmk : mrkN (xWh X k) (rdl P w (xS X k) nt nt) (soS (xS X k) nt) (outN P w nt (xS X) k) < 2 ^ 30 := mrkN_lt h40 (by
    by_cases q : endC P w (xS X k) nt = true
    · have := (out_at (P := P) (w := w) (nt := nt) (S := xS X) hk q).1
      have := outL_len (P := P) (w := w) (nt := nt) (S := xS X) (xN X)
      omega
    · have e : outN P w nt (xS X) k = (match fndO nt (xS X) (xS X k) (outL P w nt (xS X) k) 0 with
        | some i => i
        | none => (outL P w nt (xS X) k).length) := rfl
      have hle := outL_len (P := P) (w := w) (nt := nt) (S := xS X) k
      rw [e]
      cases hf : fndO nt (xS X) (xS X k) (outL P w nt (xS X) k) 0 with
      | some i =>
        have := (fndO_some _ _ _ hf).2.1
        show i < 2 ^ 20
        omega
      | none =>
        show (outL P w nt (xS X) k).length < 2 ^ 20
        omega)
  rw [nI_bit (by omega), mrkN_bit (by omega), decide_eq_false (show ¬ l = 4 by omega), Bool.and_false, Bool.false_or]
  cases hb : (rdl P w (xS X k) nt nt).any (fun a => decide (a / 10 = l)) with
  | false =>
    rw [if_pos (show (if (false : Bool) = true then (1 : Int32) else 0) = 0 from rfl)]
    exact l28 false hb.symm
  | true =>
    rw [if_pos rfl, if_neg (by decide)]
    exact l28 true hb.symm
/-- what holds behind the levels so far -/
abbrev swC (P : Nat → fI) (w nt : Nat) (X : xT) (L : Nat) (T : Nat → Nat) : Prop := (∀ e, xA X 0 ≤ e → e < xA X 1 → T (4 * (xE X e).1 + (xE X e).2 / 10) = 0) ∧ ∀ v, v < 4 * xN X → T v < L → clK P w nt X (fun k l => T (4 * k + l)) (v / 4) (v % 4)
theorem clK.G (h : clK P w nt X (fun k l => T (4 * k + l)) k l) (g : swG L T T' A A' la lb) (hT : T (4 * k + l) ≤ L) : clK P w nt X (fun k l => T' (4 * k + l)) k l := fun e a b => by
  have h1 := h e a b
  show T' (4 * (xE X e).1 + (xE X e).2 / 10) ≤ T' (4 * k + l) + _
  rw [g.2.1 _ hT]
  exact Nat.le_trans (g.1 _) h1
theorem swC.G (h : swC P w nt X L T) (g : swG L T T' A A' la lb) : swC P w nt X L T' := by
  refine ⟨fun e a b => ?_, fun v hv hT => ?_⟩
  · have h1 := h.1 e a b
    rw [g.2.1 _ (by omega)]; exact h1
  · rcases g.2.2.1 v with z | z
    · rw [z] at hT
      have := h.2 v hv hT
      exact this.G g (by rw [show 4 * (v / 4) + v % 4 = v by omega]; omega)
    · omega
theorem x_level (hP : PV P nc nl nt n) (hX : XV P w nc nl nt n X) (hJ : XJ X (xN X + 1)) (hL : L ≤ 80000) :
    ∀ (m i : Nat) (s : qS) (T A B : Nat → Nat) (la lb : Nat), i + m = 80000 → swE P w nt X s → swP s T A B la lb → s.1 70 16 = nI lb → swV P w nt X L T A B la lb → swC P w nt X L T → (∀ j, j < i → j < la → T (A j) = L → clK P w nt X (fun k l => T (4 * k + l)) (A j / 4) (A j % 4)) →
    ∃ (s' : qS) (T' A' B' : Nat → Nat) (la' lb' : Nat), (∀ r, L_X10_countSwitches_135 en (d + 3) (nI L) s' = some r → L_X10_countSwitches_86 en (d + 3) (nI L) (nI i) s = some r) ∧ swF s s' ∧ swP s' T' A' B' la' lb' ∧ s'.1 70 16 = nI lb' ∧ swV P w nt X L T' A' B' la' lb' ∧ swC P w nt X (L + 1) T' := by
  have hlim := @lim_le w
  have hxN := hX.1.2
  have done : ∀ (i : Nat) (T A B : Nat → Nat) (la lb : Nat), la ≤ i → swV P w nt X L T A B la lb → swC P w nt X L T → (∀ j, j < i → j < la → T (A j) = L → clK P w nt X (fun k l => T (4 * k + l)) (A j / 4) (A j % 4)) → swC P w nt X (L + 1) T := fun i T A B la lb hla hI hC hpr => by
    refine ⟨hC.1, fun v hv hT => ?_⟩
    by_cases z : T v = L
    · obtain ⟨j, a, b⟩ := hI.2.2.2.2.1.1 v (by omega) z
      have := hpr j (by omega) a (by rw [b]; exact z)
      rw [b] at this
      exact this
    · exact hC.2 v hv (by omega)
  intro m
  induction m with
  | zero =>
    intro i s T A B la lb hi hE hP' h16 hI hC hpr
    have hla : la ≤ 80000 := Nat.le_trans hI.2.2.1.1 (cqL_le 80000)
    refine ⟨s, T, A, B, la, lb, fun r hr => le_X10_countSwitches_86 en _ _ _ _ _ ?_, swF.rf, hP', h16, hI, done i T A B la lb (by omega) hI hC hpr⟩
    rw [if_pos (by rw [show (80000 : Int32) = nI 80000 from rfl, n_LE (by omega) (by omega)]; omega)]
    exact hr
  | succ m ih =>
    intro i s T A B la lb hi hE hP' h16 hI hC hpr
    have hla : la ≤ 80000 := Nat.le_trans hI.2.2.1.1 (cqL_le 80000)
    by_cases q : la ≤ i
    · refine ⟨s, T, A, B, la, lb, fun r hr => le_X10_countSwitches_86 en _ _ _ _ _ ?_, swF.rf, hP', h16, hI, done i T A B la lb q hI hC hpr⟩
      rw [if_neg (by rw [show (80000 : Int32) = nI 80000 from rfl, n_LE (by omega) (by omega)]; omega), hP'.2.2.2, if_pos (by rw [n_LE (by omega) (by omega)]; exact q)]
      exact hr
    have start : ∀ r, (if ¬ nI (T (A i)) = nI L then L_X10_countSwitches_86 en (d + 3) (nI L) (nI (i + 1)) s else bV (qev en (d + 3) 194 [.ref 70, .int (nI (A i)), .int (nI L)] s) (fun s7 => L_X10_countSwitches_86 en (d + 3) (nI L) (nI (i + 1)) s7)) = some r → L_X10_countSwitches_86 en (d + 3) (nI L) (nI i) s = some r := by
      intro r hr
      have hA := (hI.2.2.2.1.1 i (by omega)).1
      refine le_X10_countSwitches_86 en _ _ _ _ _ ?_
      rw [if_neg (by rw [show (80000 : Int32) = nI 80000 from rfl, n_LE (by omega) (by omega)]; omega), hP'.2.2.2, if_neg (by rw [n_LE (by omega) (by omega)]; exact q), gd_true (n_in (by omega) (by decide)), n_cl (by omega), hP'.2.1 i (by omega), gd_true (n_in (by omega) (by decide)), n_cl (by omega), hP'.1 (A i) (by omega), show nI i + (1 : Int32) = nI (i + 1) from n_ar]
      exact hr
    obtain ⟨hA, hTA⟩ := hI.2.2.2.1.1 i (by omega)
    by_cases z : T (A i) = L
    · obtain ⟨s1, T1, A1, B1, la1, lb1, r1, r2, r3, r4, r5, r6, r7⟩ := x_leave (en := en) (d := d) hP hX hJ hL hA hE hP' h16 hI z
      obtain ⟨s2, T2, A2, B2, la2, lb2, q1, q2, q3⟩ := ih (i + 1) s1 T1 A1 B1 la1 lb1 (by omega) (hE.fr r2) r3 r4 r5 (hC.G r6) (fun j a b c => by
        by_cases y : j = i
        · subst y
          rw [r6.2.2.2.1 j (by omega)]; exact r7
        · have hj : j < la := by omega
          rw [r6.2.2.2.1 j hj] at c ⊢
          have hTj := (hI.2.2.2.1.1 j hj).2
          rw [r6.2.1 _ hTj] at c
          exact (hpr j (by omega) hj c).G r6 (by rw [show 4 * (A j / 4) + A j % 4 = A j by omega]; exact hTj))
      refine ⟨s2, T2, A2, B2, la2, lb2, fun r hr => start r ?_, r2.tr q2, q3⟩
      rw [if_neg (not_not_intro (by rw [z])), r1, bV_some]
      exact q1 r hr
    · obtain ⟨s2, T2, A2, B2, la2, lb2, q1, q2, q3⟩ := ih (i + 1) s T A B la lb (by omega) hE hP' h16 hI hC (fun j a b c => by
        by_cases y : j = i
        · subst y; exact absurd c z
        · exact hpr j (by omega) b c)
      refine ⟨s2, T2, A2, B2, la2, lb2, fun r hr => start r ?_, q2, q3⟩
      rw [if_pos (by rw [n_EQ (by omega) (by omega)]; exact z)]
      exact q1 r hr
end SWL

