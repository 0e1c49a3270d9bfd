/-! SWITCHES, the model's side: the queue. -/
section MW3
variable {en : pN} {d w nc nl nt n D D' v f m b t e k l oN : Nat} {P : Nat → fI} {s s' s'' τ : qS} {X : xT} {T T' Q Q' G G' : Nat → Nat} {x : Option Nat} {N : fI}
theorem mw_shift (I : mwI P w nt X oN none D T Q G f m b) (hfm : f = m) (hmb : m < b) : mwI P w nt X oN none (D + 1) T Q G f b b ∧ mwM X (D + 1) T f b ≤ mwM X D T f b := by
  obtain ⟨i1, i2, ⟨⟨i3, i3'⟩, i3a, i3b⟩, i4, i5, i6, ⟨i7, i7'⟩, ⟨i8, i8'⟩, i9, i9'⟩ := I
  have m1 := cqL_mono (T := T) (T' := T) (b := D) (b' := D + 1) (n := 5 * xN X) (fun j _ h => by omega)
  have m2 := cqL_mono (T := T) (T' := T) (b := D + 1) (b' := D + 1 + 1) (n := 5 * xN X) (fun j _ h => by omega)
  refine ⟨⟨fun j hj => ?_, i2, ⟨⟨by omega, Nat.le_refl _⟩, by omega, by omega⟩, fun i a1 a2 => ?_, fun v hv hT => ?_, i6, ⟨by omega, i7'⟩, ⟨by omega, Or.inl rfl⟩, i9, i9'⟩, ?_⟩
  · rcases i1 j hj with z | z
    · exact Or.inl (by omega)
    · exact Or.inr z
  · obtain ⟨b1, b2, b3, b4⟩ := i4 i a1 a2
    exact ⟨b1, b2, fun _ => b4, by omega⟩
  · rcases i5 v hv hT with q | q | ⟨i, a1, a2, -⟩ | ⟨i, a1, a2, a3, a4⟩
    · exact Or.inl q
    · exact Or.inr (Or.inl q)
    · omega
    · exact Or.inr (Or.inr (Or.inl ⟨i, by omega, a2, a3, a4⟩))
  · unfold mwM
    omega
theorem n_d5 {z : Nat} (h : z < 2 ^ 31) : nI z / (5 : Int32) = nI (z / 5) := n_dv (m := 5) h (by decide)
theorem n_m5 {z : Nat} (h : z < 2 ^ 31) : nI z - nI z / (5 : Int32) * (5 : Int32) = nI (z % 5) := by
  rw [n_d5 h, n_mr, n_sub (by show z / 5 * 5 ≤ z; omega)]
  congr 1
  show z - z / 5 * 5 = z % 5
  omega
theorem m_pop (hP : PV P nc nl nt n) (hX : XV P w nc nl nt n X) (hJ : XJ X (xN X + 1)) (hE : mwE P w nt X s) (hP' : mwP X oN s T Q G f b) (hI : mwI P w nt X oN none D T Q G f m b) (hfm : f < m) (hoN : ∀ k, k < xN X → endC P w (xS X k) nt = true → outN P w nt (xS X) k < oN) (hoN2 : oN ≤ 20000) :
    ∃ (s' : qS) (T' Q' G' : Nat → Nat) (f' b' : Nat), mwF s s' ∧ mwP X oN s' T' Q' G' f' b' ∧ mwI P w nt X oN none D T' Q' G' f' m b' ∧ mwM X D T' f' b' < mwM X D T f b ∧ ∀ r, L_X12_layWays_90 en d (nI f') (nI b') s' = some r → L_X12_layWays_90 en d (nI f) (nI b) s = some r := by
  have hlim := @lim_le w
  have hxN := hX.1
  have hD := mw_D ⟨hxN.1, by omega⟩ hI
  obtain ⟨i1, i2, ⟨⟨i3, i3'⟩, i3a, i3b⟩, i4, i5, i6, ⟨i7, i7'⟩, ⟨i8, i8'⟩, i9, i9'⟩ := hI
  obtain ⟨hv, hv4, hTd, -⟩ := i4 f (Nat.le_refl _) (by omega)
  have hTd := hTd hfm
  generalize hQ : Q f = v at hv hv4 hTd
  have hk : v / 5 < xN X := by omega
  -- the node's time has come, or it is done
  have hcase : dnV P w nt X T G v ∨ T v = D := by
    rcases i5 v hv (by omega) with q | q | ⟨i, -, -, -, a4⟩ | ⟨i, -, -, -, a4⟩
    · cases q
    · exact Or.inl q
    · exact Or.inr a4
    · omega
  have hTvv : T v ≤ 100000 := by omega
  -- the queue without it
  have base : ∀ G' : Nat → Nat, (∀ j, G' j ≤ G j) → (∀ o, o < oN → G' o ≤ 100000 ∧ (G' o = 100000 ∨ ∃ v, v < 5 * xN X ∧ endC P w (xS X (v / 5)) nt = true ∧ outN P w nt (xS X) (v / 5) = o ∧ T v ≤ G' o ∧ T v ≠ 100000)) → mwI P w nt X oN (some v) D T Q G' (f + 1) m b := fun G' hG' h6 => by
    refine ⟨i1, i2, ⟨⟨by omega, i3'⟩, by omega, i3b⟩, fun i a1 a2 => i4 i (by omega) a2, fun u hu hT => ?_, h6, ⟨by omega, i7'⟩, ⟨i8, i8'⟩, i9, i9'⟩
    by_cases z : u = v
    · exact Or.inl (by rw [z])
    · rcases i5 u hu hT with q | q | ⟨i, a1, a2, a3, a4⟩ | ⟨i, a1, a2, a3, a4⟩
      · cases q
      · exact Or.inr (Or.inl (q.le (fun _ => Nat.le_refl _) hG' rfl))
      · exact Or.inr (Or.inr (Or.inl ⟨i, by
          by_cases y : i = f
          · exfalso; rw [y, hQ] at a3; exact z a3.symm
          · omega, a2, a3, a4⟩))
      · exact Or.inr (Or.inr (Or.inr ⟨i, a1, a2, a3, a4⟩))
  have hA0 := hJ.1 (v / 5) (v / 5 + 1) (by omega) (by omega)
  have hm5 : v % 5 < 5 := by omega
  -- behind the outcome's least
  have rest : ∀ (s1 : qS) (G' : Nat → Nat), mwF s s1 → mwP X oN s1 T Q G' f b → (∀ j, G' j ≤ G j) → (∀ o, o < oN → G' o ≤ 100000 ∧ (G' o = 100000 ∨ ∃ v, v < 5 * xN X ∧ endC P w (xS X (v / 5)) nt = true ∧ outN P w nt (xS X) (v / 5) = o ∧ T v ≤ G' o ∧ T v ≠ 100000)) → (endC P w (xS X (v / 5)) nt = true → G' (outN P w nt (xS X) (v / 5)) ≤ T v) → (∀ r, L_X12_layWays_169 en d (nI (f + 1)) (nI b) (nI v) (nI (v / 5)) (nI (v % 5)) s1 = some r → L_X12_layWays_90 en d (nI f) (nI b) s = some r) →
      ∃ (s' : qS) (T' Q' G' : Nat → Nat) (f' b' : Nat), mwF s s' ∧ mwP X oN s' T' Q' G' f' b' ∧ mwI P w nt X oN none D T' Q' G' f' m b' ∧ mwM X D T' f' b' < mwM X D T f b ∧ ∀ r, L_X12_layWays_90 en d (nI f') (nI b') s' = some r → L_X12_layWays_90 en d (nI f) (nI b) s = some r := fun s1 G' hF1 hP1 hG' h6 hGv hst => by
    obtain ⟨s', T', Q', f', b', r1, r2, r3, r4, r5, r6, r7⟩ := m_edges (en := en) (d := d) hP hX hJ hv hv4 (xA X (v / 5 + 1) - xA X (v / 5)) (xA X (v / 5)) s1 T Q (f + 1) b (by omega) (Nat.le_refl _) (hE.fr hF1) ⟨hP1.1, fun i a1 a2 => hP1.2.1 i (by omega) a2, hP1.2.2⟩ (base G' hG' h6) (by
      rcases hcase with q | q
      · exact Or.inr q.1
      · exact Or.inl q) (fun e' a1 a2 => by omega)
    refine ⟨s', T', Q', G', f', b', hF1.tr r1, r2, ?_, ?_, fun r hh => hst r (le_X12_layWays_169 en _ _ _ _ _ _ _ _ ?_)⟩
    · obtain ⟨j1, j2, j3, j4, j5, j6, j7, j8, j9⟩ := r3
      refine ⟨j1, j2, j3, j4, fun u hu hT => ?_, j6, j7, j8, j9⟩
      rcases j5 u hu hT with q | q
      · cases q
        exact Or.inr (Or.inl ⟨r4, fun he => by rw [r5]; exact hGv he⟩)
      · exact Or.inr q
    · have : mwM X D T (f + 1) b < mwM X D T f b := by unfold mwM; omega
      omega
    · rw [gd_true (n_in (by omega) (by decide)), n_cl (by omega), (hE.fr hF1).2.1 (v / 5) (by omega), nm_eq]
      exact r7 r hh
  have e90 : ∀ r, (if (s.1 216 (v / 5)) = (0 : Int32) then L_X12_layWays_169 en d (nI (f + 1)) (nI b) (nI v) (nI (v / 5)) (nI (v % 5)) s else gd (p_inB (nI v) 100005 = true) (gd (p_inB (s.1 217 (v / 5)) 20001 = true) (if (s.1 229 (s.1 217 (v / 5)).toNatClampNeg) ≤ (s.1 227 (nI v).toNatClampNeg) then L_X12_layWays_169 en d (nI (f + 1)) (nI b) (nI v) (nI (v / 5)) (nI (v % 5)) s else nm (uI s 229 ((s.1 217 (v / 5)).toNatClampNeg) (s.1 227 (nI v).toNatClampNeg)) (fun s11 => L_X12_layWays_169 en d (nI (f + 1)) (nI b) (nI v) (nI (v / 5)) (nI (v % 5)) s11)))) = some r → L_X12_layWays_90 en d (nI f) (nI b) s = some r := fun r hh => by
    refine le_X12_layWays_90 en _ _ _ _ _ ?_
    rw [if_neg (by rw [n_EQ (by omega) (by omega)]; omega), gd_true (n_in (by omega) (by decide)), nm_eq, n_cl (by omega), hP'.2.1 f (Nat.le_refl _) (by omega), hQ, show nI f + (1 : Int32) = nI (f + 1) from n_ar, msk19 (by omega), nm_eq, n_m5 (by omega), nm_eq, n_d5 (by omega), gd_true (n_in (by omega) (by decide)), n_cl (by omega)]
    exact hh
  obtain ⟨-, h216, h217⟩ := hE.2.2 (v / 5) hk
  by_cases he : endC P w (xS X (v / 5)) nt = true
  rotate_left
  · refine rest s G mwF.rf hP' (fun _ => Nat.le_refl _) i6 (fun z => absurd z he) (fun r hh => e90 r ?_)
    rw [h216, Bool.eq_false_iff.mpr he, if_pos (show bt false = (0 : Int32) from rfl)]
    exact hh
  have ho := hoN (v / 5) hk he
  generalize hoo : outN P w nt (xS X) (v / 5) = o at ho h217 rest
  rw [if_pos he] at h217
  have hGo := (i6 o ho).1
  by_cases q : G o ≤ T v
  · refine rest s G mwF.rf hP' (fun _ => Nat.le_refl _) i6 (fun _ => q) (fun r hh => e90 r ?_)
    rw [h216, he, if_neg (show ¬ bt true = (0 : Int32) by decide), gd_true (n_in (by omega) (by decide)), h217, gd_true (n_in (by omega) (by decide)), n_cl (by omega), n_cl (by omega), hP'.2.2 o ho, hP'.1 v hv, if_pos (by rw [n_LE (by omega) (by omega)]; exact q)]
    exact hh
  · have hG' : ∀ j, at1 G o (T v) j ≤ G j := fun j => by
      by_cases z : j = o
      · rw [z, at1_s]; omega
      · rw [at1_n z]; exact Nat.le_refl _
    refine rest (uI s 229 o (nI (T v))) (at1 G o (T v)) ⟨fun c a1 a2 a3 => uI_ne a3, rfl⟩ ⟨fun j hj => by rw [uI_ne (by decide)]; exact hP'.1 j hj, fun i a1 a2 => by rw [uI_ne (by decide)]; exact hP'.2.1 i a1 a2, fun o' ho' => ?_⟩ hG' (fun o' ho' => ?_) (fun _ => by rw [at1_s]; exact Nat.le_refl _) (fun r hh => e90 r ?_)
    · rw [uI_row]
      by_cases z : o' = o
      · rw [z, pk_us, at1_s]
      · rw [pk_un z, at1_n z]; exact hP'.2.2 o' ho'
    · by_cases z : o' = o
      · rw [z, at1_s]
        exact ⟨hTvv, Or.inr ⟨v, hv, he, hoo, Nat.le_refl _, by omega⟩⟩
      · rw [at1_n z]; exact i6 o' ho'
    · rw [h216, he, if_neg (show ¬ bt true = (0 : Int32) by decide), gd_true (n_in (by omega) (by decide)), h217, gd_true (n_in (by omega) (by decide)), n_cl (by omega), n_cl (by omega), hP'.2.2 o ho, hP'.1 v hv, if_neg (by rw [n_LE (by omega) (by omega)]; exact q), nm_eq]
      exact hh
/-- what stands when the queue is empty -/
abbrev mwZ (P : Nat → fI) (w nt : Nat) (X : xT) (oN : Nat) (T G : Nat → Nat) : Prop := grT P w nt X 100000 (fun k l => T (5 * k + l)) ∧ (∀ v, v < 5 * xN X → T v ≠ 100000 → endC P w (xS X (v / 5)) nt = true → G (outN P w nt (xS X) (v / 5)) ≤ T v) ∧ (∀ o, o < oN → G o ≤ 100000 ∧ (G o = 100000 ∨ ∃ v, v < 5 * xN X ∧ endC P w (xS X (v / 5)) nt = true ∧ outN P w nt (xS X) (v / 5) = o ∧ T v ≤ G o ∧ T v ≠ 100000)) ∧ T 4 = 0 ∧ ∀ k, 1 ≤ k → k < xN X → T (5 * k + 4) = 100000
theorem m_bfs (hP : PV P nc nl nt n) (hX : XV P w nc nl nt n X) (hJ : XJ X (xN X + 1)) (hoN : ∀ k, k < xN X → endC P w (xS X k) nt = true → outN P w nt (xS X) k < oN) (hoN2 : oN ≤ 20000) :
    ∀ (u D : Nat) (s : qS) (T Q G : Nat → Nat) (f m b : Nat), mwM X D T f b ≤ u → mwE P w nt X s → mwP X oN s T Q G f b → mwI P w nt X oN none D T Q G f m b →
    ∃ (s' : qS) (T' G' : Nat → Nat), L_X12_layWays_90 en d (nI f) (nI b) s = some (none, s') ∧ mwF s s' ∧ (∀ o, o < oN → s'.1 229 o = nI (G' o)) ∧ mwZ P w nt X oN T' G' := by
  have hlim := @lim_le w
  have hxN := hX.1
  have exit : ∀ (D : Nat) (s : qS) (T Q G : Nat → Nat) (f m b : Nat), f = b → mwE P w nt X s → mwP X oN s T Q G f b → mwI P w nt X oN none D T Q G f m b → ∃ (s' : qS) (T' G' : Nat → Nat), L_X12_layWays_90 en d (nI f) (nI b) s = some (none, s') ∧ mwF s s' ∧ (∀ o, o < oN → s'.1 229 o = nI (G' o)) ∧ mwZ P w nt X oN T' G' := by
    intro D s T Q G f m b hfb hE hP' hI
    have hD := mw_D ⟨hxN.1, by omega⟩ hI
    obtain ⟨i1, i2, ⟨⟨i3, i3'⟩, i3a, i3b⟩, i4, i5, i6, ⟨i7, i7'⟩, ⟨i8, i8'⟩, i9, i9'⟩ := hI
    have dn : ∀ v, v < 5 * xN X → T v ≠ 100000 → dnV P w nt X T G v := fun v hv hT => by
      rcases i5 v hv hT with q | q | ⟨i, a1, a2, -⟩ | ⟨i, a1, a2, -⟩
      · cases q
      · exact q
      · omega
      · omega
    have hT : ∀ v, v < 5 * xN X → T v ≤ 100000 := fun v hv => by rcases i1 v hv with z | z <;> omega
    refine ⟨s, T, G, le_X12_layWays_90 en _ _ _ _ _ (by rw [if_pos (by rw [hfb])]), mwF.rf, hP'.2.2, ⟨⟨fun e a1 a2 => ?_, fun k hk l hl e a1 a2 => ?_⟩, fun k hk l hl => hT _ (by omega), i2⟩, fun v hv hT he => (dn v hv hT).2 he, i6, i9, i9'⟩
    · have h4 := (dn 4 (by omega) (by omega)).1 e (show xA X 0 ≤ e from a1) (show e < xA X 1 from a2)
      have e4 : cs5 P w nt X (4 / 5) (4 % 5) ((xE X e).2 / 10) = 0 := if_pos rfl
      rw [e4, i9] at h4
      show T (5 * (xE X e).1 + (xE X e).2 / 10) = 0
      omega
    · show T (5 * (xE X e).1 + (xE X e).2 / 10) ≤ T (5 * k + l) + cstS P w nt X k l ((xE X e).2 / 10)
      by_cases z : T (5 * k + l) = 100000
      · have hm := hJ.2.1 (k + 1) (by omega)
        obtain ⟨eN, e40⟩ := hX.2.2.2.2.1 e (by omega)
        have := hT (5 * (xE X e).1 + (xE X e).2 / 10) (by omega)
        omega
      · have h4 := (dn (5 * k + l) (by omega) z).1 e (by rw [show (5 * k + l) / 5 = k by omega]; exact a1) (by rw [show (5 * k + l) / 5 = k by omega]; exact a2)
        rw [show (5 * k + l) / 5 = k by omega, show (5 * k + l) % 5 = l by omega] at h4
        have ec : cs5 P w nt X k l ((xE X e).2 / 10) = cstS P w nt X k l ((xE X e).2 / 10) := if_neg (by omega)
        rw [ec] at h4
        exact h4
  intro u
  induction u with
  | zero =>
    intro D s T Q G f m b hu hE hP' hI
    refine exit D s T Q G f m b ?_ hE hP' hI
    have := hI.2.2.1.1
    unfold mwM at hu
    omega
  | succ u ih =>
    intro D s T Q G f m b hu hE hP' hI
    by_cases hfb : f = b
    · exact exit D s T Q G f m b hfb hE hP' hI
    have hfm := hI.2.2.1.1
    have go : ∀ D m, mwI P w nt X oN none D T Q G f m b → f < m → mwM X D T f b ≤ u + 1 → ∃ (s' : qS) (T' G' : Nat → Nat), L_X12_layWays_90 en d (nI f) (nI b) s = some (none, s') ∧ mwF s s' ∧ (∀ o, o < oN → s'.1 229 o = nI (G' o)) ∧ mwZ P w nt X oN T' G' := fun D m hI hfm hu => by
      obtain ⟨s1, T1, Q1, G1, f1, b1, r1, r2, r3, r4, r5⟩ := m_pop (en := en) (d := d) hP hX hJ hE hP' hI hfm hoN hoN2
      obtain ⟨s2, T2, G2, q1, q2, q3⟩ := ih D s1 T1 Q1 G1 f1 m b1 (by omega) (hE.fr r1) r2 r3
      exact ⟨s2, T2, G2, r5 _ q1, r1.tr q2, q3⟩
    by_cases q : f = m
    · obtain ⟨h1, h2⟩ := mw_shift hI q (by omega)
      exact go (D + 1) b h1 (by omega) (by omega)
    · exact go D m hI (by omega) hu
/-- all of the model's tables laid -/
theorem m_fill15 {N5 : Nat} (hN : N5 ≤ 100000) : ∀ (c i : Nat) (s : qS), i + c = N5 → (5 : Int32) * s.1 151 101 = nI N5 → (∀ j, j < i → s.1 227 j = nI 100000) → ∃ s', (∀ r, L_X12_layWays_42 en d 0 s' = some r → L_X12_layWays_15 en d (nI i) s = some r) ∧ (∀ j, j < N5 → s'.1 227 j = nI 100000) ∧ (∀ c, c ≠ 227 → s'.1 c = s.1 c) ∧ s'.2 = s.2 := by
  intro c
  induction c with
  | zero =>
    intro i s hi h5 hj
    refine ⟨s, fun r hh => le_X12_layWays_15 en _ _ _ _ ?_, fun j hj' => hj j (by omega), fun _ _ => rfl, rfl⟩
    rw [h5, if_pos (by rw [n_LE (by omega) (by omega)]; omega)]
    exact hh
  | succ c ih =>
    intro i s hi h5 hj
    obtain ⟨s', a1, a2, a3, a4⟩ := ih (i + 1) (uI s 227 i (nI 100000)) (by omega) (by rw [uI_ne (by decide)]; exact h5) (fun j hj' => by
      rw [uI_row]
      by_cases z : j = i
      · rw [z, pk_us]
      · rw [pk_un z]; exact hj j (by omega))
    refine ⟨s', fun r hh => le_X12_layWays_15 en _ _ _ _ ?_, a2, fun c hc => (a3 c hc).trans (uI_ne hc), a4⟩
    rw [h5, if_neg (by rw [n_LE (by omega) (by omega)]; omega), gd_true (n_in (by omega) (by decide)), nm_eq, n_cl (by omega), show nI i + (1 : Int32) = nI (i + 1) from n_ar]
    exact a1 r hh
theorem m_fill42 (hN : oN ≤ 20000) : ∀ (c i : Nat) (s : qS), i + c = oN → s.1 151 115 = nI oN → (∀ j, j < i → s.1 229 j = nI 100000) → ∃ s', (∀ r, L_X12_layWays_90 en d (nI 262144) (nI 262145) (uI (uI s' 227 4 0) 228 262144 4) = some r → L_X12_layWays_42 en d (nI i) s = some r) ∧ (∀ j, j < oN → s'.1 229 j = nI 100000) ∧ (∀ c, c ≠ 229 → s'.1 c = s.1 c) ∧ s'.2 = s.2 := by
  intro c
  induction c with
  | zero =>
    intro i s hi h5 hj
    refine ⟨s, fun r hh => le_X12_layWays_42 en _ _ _ _ ?_, fun j hj' => hj j (by omega), fun _ _ => rfl, rfl⟩
    rw [h5, if_pos (by rw [n_LE (by omega) (by omega)]; omega), nm_eq, nm_eq]
    exact hh
  | succ c ih =>
    intro i s hi h5 hj
    obtain ⟨s', a1, a2, a3, a4⟩ := ih (i + 1) (uI s 229 i (nI 100000)) (by omega) (by rw [uI_ne (by decide)]; exact h5) (fun j hj' => by
      rw [uI_row]
      by_cases z : j = i
      · rw [z, pk_us]
      · rw [pk_un z]; exact hj j (by omega))
    refine ⟨s', fun r hh => le_X12_layWays_42 en _ _ _ _ ?_, a2, fun c hc => (a3 c hc).trans (uI_ne hc), a4⟩
    rw [h5, if_neg (by rw [n_LE (by omega) (by omega)]; omega), gd_true (n_in (by omega) (by decide)), nm_eq, n_cl (by omega), show nI i + (1 : Int32) = nI (i + 1) from n_ar]
    exact a1 r hh
theorem m_layW (hP : PV P nc nl nt n) (hX : XV P w nc nl nt n X) (hJ : XJ X (xN X + 1)) (hE : mwE P w nt X s) (h121 : s.1 151 121 = 0) (h101 : s.1 151 101 = nI (xN X)) (h115 : s.1 151 115 = nI oN) (hoN : ∀ k, k < xN X → endC P w (xS X k) nt = true → outN P w nt (xS X) k < oN) (hoN2 : oN ≤ 20000) :
    ∃ (s' : qS) (T' G' : Nat → Nat), qev en (d + 1) 373 [.ref 151] s = some (none, s') ∧ ((∀ c, c ≠ 151 → c ≠ 227 → c ≠ 228 → c ≠ 229 → s'.1 c = s.1 c) ∧ (∀ j, j ≠ 121 → s'.1 151 j = s.1 151 j) ∧ s'.2 = s.2) ∧ s'.1 151 121 = 1 ∧ (∀ o, o < oN → s'.1 229 o = nI (G' o)) ∧ mwZ P w nt X oN T' G' := by
  have hlim := @lim_le w
  have hxN := hX.1
  let s1 : qS := uI s 151 121 1
  have o1 : ∀ c, c ≠ 151 → s1.1 c = s.1 c := fun c hc => uI_ne hc
  have o1' : ∀ j, j ≠ 121 → s1.1 151 j = s.1 151 j := fun j hj => by show (uI s 151 121 1).1 151 j = _; rw [g_I, if_neg (fun z => hj z.2)]
  obtain ⟨s2, a1, a2, a3, a4⟩ := m_fill15 (en := en) (d := d) (N5 := 5 * xN X) (by omega) (5 * xN X) 0 s1 (by omega) (by rw [o1' 101 (by decide), h101, n_ml]) (fun j hj => absurd hj (Nat.not_lt_zero _))
  obtain ⟨s3, b1, b2, b3, b4⟩ := m_fill42 (en := en) (d := d) hoN2 oN 0 s2 (by omega) (by rw [a3 151 (by decide), o1' 115 (by decide)]; exact h115) (fun j hj => absurd hj (Nat.not_lt_zero _))
  let s4 : qS := uI (uI s3 227 4 0) 228 262144 4
  have e4 : ∀ c, c ≠ 227 → c ≠ 228 → c ≠ 229 → s4.1 c = s1.1 c := fun c h1 h2 h3 => by
    show (uI (uI s3 227 4 0) 228 262144 4).1 c = _
    rw [uI_ne h2, uI_ne h1, b3 c h3, a3 c h1]
  have hE4 : mwE P w nt X s4 := by
    refine ⟨fun e he => ?_, fun i hi => ?_, fun i hi => ?_⟩
    · rw [e4 219 (by decide) (by decide) (by decide), e4 220 (by decide) (by decide) (by decide), o1 219 (by decide), o1 220 (by decide)]; exact hE.1 e he
    · rw [e4 218 (by decide) (by decide) (by decide), o1 218 (by decide)]; exact hE.2.1 i hi
    · rw [e4 215 (by decide) (by decide) (by decide), e4 216 (by decide) (by decide) (by decide), e4 217 (by decide) (by decide) (by decide), o1 215 (by decide), o1 216 (by decide), o1 217 (by decide)]; exact hE.2.2 i hi
  have hP4 : mwP X oN s4 (at1 (fun _ => 100000) 4 0) (fun _ => 4) (fun _ => 100000) 262144 262145 := by
    refine ⟨fun j hj => ?_, fun i h1 h2 => ?_, fun o ho => ?_⟩
    · show (uI (uI s3 227 4 0) 228 262144 4).1 227 j = _
      rw [uI_ne (by decide), uI_row]
      by_cases z : j = 4
      · rw [z, pk_us, at1_s]; rfl
      · rw [pk_un z, at1_n z, b3 227 (by decide)]; exact a2 j hj
    · show (uI (uI s3 227 4 0) 228 262144 4).1 228 i = _
      rw [uI_row, show i = 262144 by omega, pk_us]; rfl
    · show (uI (uI s3 227 4 0) 228 262144 4).1 229 o = _
      rw [uI_ne (by decide), uI_ne (by decide)]; exact b2 o ho
  have hT4 : at1 (fun _ => (100000 : Nat)) 4 0 4 = 0 := at1_s
  have hTn : ∀ j, j ≠ 4 → at1 (fun _ => (100000 : Nat)) 4 0 j = 100000 := fun j hj => at1_n hj
  have u0 := cqL_up (T := fun _ => 100000) (v := 4) (b := 0) (x := 0) (5 * xN X) (by omega) (by show ¬ 100000 ≤ 0; omega) (Nat.le_refl _)
  have u9 := cqL_up (T := fun _ => 100000) (v := 4) (b := 99999) (x := 0) (5 * xN X) (by omega) (by show ¬ 100000 ≤ 99999; omega) (by omega)
  have hI4 : mwI P w nt X oN none 0 (at1 (fun _ => 100000) 4 0) (fun _ => 4) (fun _ => 100000) 262144 262145 262145 := by
    refine ⟨fun j hj => ?_, fun U hU hb k hk l hl => ?_, ⟨⟨by omega, Nat.le_refl _⟩, by omega, by omega⟩, fun i h1 h2 => ⟨by show 4 < 5 * xN X; omega, fun _ => rfl, fun _ => by show at1 (fun _ => (100000 : Nat)) 4 0 4 ≤ 0; omega, by show at1 (fun _ => (100000 : Nat)) 4 0 4 ≤ 0 + 1; omega⟩, fun v hv hT => ?_, fun o ho => ⟨Nat.le_refl _, Or.inl rfl⟩, ⟨by omega, by omega⟩, ⟨by omega, Or.inl rfl⟩, hT4, fun k h1 h2 => hTn _ (by omega)⟩
    · by_cases z : j = 4
      · left; rw [z, hT4]; omega
      · right; exact hTn j z
    · rw [hTn _ (by omega)]; exact hb k hk l hl
    · have : v = 4 := Classical.not_not.mp (fun z => hT (hTn v z))
      exact Or.inr (Or.inr (Or.inl ⟨262144, Nat.le_refl _, by omega, this.symm, by rw [this, hT4]⟩))
  obtain ⟨s5, T5, G5, q1, q2, q3, q4⟩ := m_bfs (en := en) (d := d) hP hX hJ hoN hoN2 _ 0 s4 _ _ _ 262144 262145 262145 (Nat.le_refl _) hE4 hP4 hI4
  refine ⟨s5, T5, G5, le_X12_layWays en _ _ _ ?_, ⟨fun c h0 h1 h2 h3 => ?_, fun j hj => ?_, ?_⟩, ?_, q3, q4⟩
  · rw [h121, if_pos rfl, nm_eq]
    exact a1 _ (b1 _ q1)
  · rw [q2.1 c h1 h2 h3, e4 c h1 h2 h3, o1 c h0]
  · rw [q2.1 151 (by decide) (by decide) (by decide), e4 151 (by decide) (by decide) (by decide), o1' j hj]
  · rw [q2.2]
    show s3.2 = s.2
    rw [b4, a4]
    rfl
  · rw [q2.1 151 (by decide) (by decide) (by decide), e4 151 (by decide) (by decide) (by decide)]
    show (uI s 151 121 1).1 151 121 = _
    rw [g_I, if_pos ⟨rfl, rfl⟩]
end MW3
