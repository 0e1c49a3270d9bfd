/-! SWITCHES, the class's side: all levels. -/
section SWO
variable {en : pN} {d d' w nc nl nt n p L v c la lb k l e : Nat} {P : Nat → fI} {τ s s' s'' : qS} {X : xT} {fw : Bool} {T T' T'' A A' A'' B : Nat → Nat}
theorem sw_gr (hX : XV P w nc nl nt n X) (hJ : XJ X (xN X + 1)) (hL : L ≤ 100000) (hf : ∀ v, v < 80000 → T v < L ∨ T v = 200000) (h2 : ∀ U, clT P w nt X U → (∀ k, k < xN X → ∀ l, l < 4 → U k l ≤ 200000) → ∀ k, k < xN X → ∀ l, l < 4 → U k l ≤ T (4 * k + l)) (hC : swC P w nt X L T) : grT P w nt X 200000 (fun k l => T (4 * k + l)) := by
  have hlim := @lim_le w
  have hxN := hX.1.2
  have hT : ∀ v, v < 80000 → T v ≤ 200000 := fun v hv => by rcases hf v hv with z | z <;> omega
  refine ⟨⟨hC.1, fun k hk l hl e a b => ?_⟩, fun k hk l hl => hT _ (by omega), h2⟩
  rcases hf (4 * k + l) (by omega) with z | z
  · have := hC.2 (4 * k + l) (by omega) z
    rw [show (4 * k + l) / 4 = k by omega, show (4 * k + l) % 4 = l by omega] at this
    exact this e a b
  · have hm := hJ.2.1 (k + 1) (by omega)
    obtain ⟨eN, e40⟩ := hX.2.2.2.2.1 e (by omega)
    have := hT (4 * (xE X e).1 + (xE X e).2 / 10) (by omega)
    show T (4 * (xE X e).1 + (xE X e).2 / 10) ≤ T (4 * k + l) + _
    omega
theorem x_exit (hL : L ≤ 100000) (h15 : s.1 70 15 = nI 0) : L_X10_countSwitches_66 en d (nI L) s = some (none, s) := by
  refine le_X10_countSwitches_66 en _ _ _ _ ?_
  rw [if_neg (by rw [show (200000 : Int32) = nI 200000 from rfl, n_LE (by omega) (by omega)]; omega), h15, if_pos (by decide)]
theorem x_outer (hP : PV P nc nl nt n) (hX : XV P w nc nl nt n X) (hJ : XJ X (xN X + 1)) :
    ∀ (m L : Nat) (s : qS) (T A B : Nat → Nat) (la : Nat), L + m = 80001 → swE P w nt X s → swP s T A B la 0 → swV P w nt X L T A B la 0 → swC P w nt X L T →
    ∃ (s' : qS) (T' : Nat → Nat), L_X10_countSwitches_66 en (d + 3) (nI L) s = some (none, s') ∧ swF s s' ∧ (∀ j, j < 80000 → s'.1 96 j = nI (T' j)) ∧ grT P w nt X 200000 (fun k l => T' (4 * k + l)) := by
  have hlim := @lim_le w
  have hxN := hX.1.2
  intro m
  induction m with
  | zero =>
    intro L s T A B la hL hE hP' hI hC
    have := hI.2.2.2.2.2.1
    have := cqL_le (T := T) (b := 199999) 80000
    omega
  | succ m ih =>
    intro L s T A B la hL hE hP' hI hC
    have noB : ∀ v, v < 80000 → ¬ T v = L + 1 := fun v hv z => by
      obtain ⟨i, a, b⟩ := hI.2.2.2.2.1.2 v hv z
      omega
    by_cases h0 : la = 0
    · subst h0
      refine ⟨s, T, x_exit (by omega) hP'.2.2.2, swF.rf, hP'.1, sw_gr hX hJ (by omega) (fun v hv => ?_) hI.2.1 hC⟩
      rcases hI.1 v hv with z | z
      · have h1 := noB v hv
        have h2 : ¬ T v = L := fun y => by
          obtain ⟨i, a, b⟩ := hI.2.2.2.2.1.1 v hv y
          omega
        omega
      · exact Or.inr z
    have hla : la ≤ 80000 := Nat.le_trans hI.2.2.1.1 (cqL_le 80000)
    let s1 : qS := uI s 70 16 0
    have f1 : swF s s1 := ⟨fun c a _ _ _ => uI_ne a, fun j _ b => by show (uI s 70 16 0).1 70 j = _; rw [g_I, if_neg (fun z => b z.2)], rfl⟩
    have p1 : swP s1 T A B la 0 := ⟨fun j hj => by show (uI s 70 16 0).1 96 j = _; rw [uI_ne (by decide)]; exact hP'.1 j hj, fun i hi => by show (uI s 70 16 0).1 97 i = _; rw [uI_ne (by decide)]; exact hP'.2.1 i hi, fun i hi => absurd hi (Nat.not_lt_zero _), by show (uI s 70 16 0).1 70 15 = _; rw [g_I, if_neg (by decide)]; exact hP'.2.2.2⟩
    have h16 : s1.1 70 16 = nI 0 := by show (uI s 70 16 0).1 70 16 = _; rw [g_I, if_pos ⟨rfl, rfl⟩]; rfl
    obtain ⟨s2, T2, A2, B2, la2, lb2, q1, q2, q3, q4, q5, q6⟩ := x_level (en := en) (d := d) hP hX hJ (show L ≤ 80000 by omega) 80000 0 s1 T A B la 0 (by omega) (hE.fr f1) p1 h16 hI hC (fun j a => absurd a (Nat.not_lt_zero _))
    have hlb : lb2 ≤ 80000 := Nat.le_trans q5.2.2.1.2 (cqL_le 80000)
    let s3 : qS := uI s2 70 15 (s2.1 70 16)
    let s4 : qS := uIr s3 97 (va_cpy (s3.1 98) (s3.1 97) (0 : Int32).toNatClampNeg (0 : Int32).toNatClampNeg (s3.1 70 16).toNatClampNeg)
    have e16 : s3.1 70 16 = nI lb2 := by show (uI s2 70 15 (s2.1 70 16)).1 70 16 = _; rw [g_I, if_neg (by decide)]; exact q4
    have f4 : swF s2 s4 := ⟨fun c a b x y => by show (uIr s3 97 _).1 c = _; rw [uIr_ne x]; exact uI_ne a, fun j a b => by
      show (uIr s3 97 _).1 70 j = _
      rw [uIr_ne (by decide)]
      show (uI s2 70 15 (s2.1 70 16)).1 70 j = _
      rw [g_I, if_neg (fun z => a z.2)], rfl⟩
    have e15 : s4.1 70 15 = nI lb2 := by
      show (uIr s3 97 _).1 70 15 = _
      rw [uIr_ne (by decide)]
      show (uI s2 70 15 (s2.1 70 16)).1 70 15 = _
      rw [g_I, if_pos ⟨rfl, rfl⟩]; exact q4
    have e96 : ∀ j, j < 80000 → s4.1 96 j = nI (T2 j) := fun j hj => by
      show (uIr s3 97 _).1 96 j = _
      rw [uIr_ne (by decide)]
      show (uI s2 70 15 (s2.1 70 16)).1 96 j = _
      rw [uI_ne (by decide)]; exact q3.1 j hj
    have e97 : ∀ i, i < lb2 → s4.1 97 i = nI (B2 i) := fun i hi => by
      show (uIr s3 97 (va_cpy (s3.1 98) (s3.1 97) 0 0 (s3.1 70 16).toNatClampNeg)).1 97 i = _
      rw [uIr_row, e16, n_cl (by omega)]
      show (if 0 ≤ i ∧ i < 0 + lb2 then s3.1 98 (0 + (i - 0)) else s3.1 97 i) = _
      rw [if_pos ⟨Nat.zero_le _, by omega⟩, show 0 + (i - 0) = i by omega]
      show (uI s2 70 15 (s2.1 70 16)).1 98 i = _
      rw [uI_ne (by decide)]; exact q3.2.2.1 i hi
    have start : ∀ r, L_X10_countSwitches_66 en (d + 3) (nI (L + 1)) s4 = some r → L_X10_countSwitches_66 en (d + 3) (nI L) s = some r := fun r hr => by
      refine le_X10_countSwitches_66 en _ _ _ _ ?_
      rw [if_neg (by rw [show (200000 : Int32) = nI 200000 from rfl, n_LE (by omega) (by omega)]; omega), hP'.2.2.2, if_neg (by rw [show (0 : Int32) = nI 0 from rfl, n_LE (by omega) (by omega)]; omega), nm_eq]
      refine q1 r (le_X10_countSwitches_135 en _ _ _ _ ?_)
      rw [nm_eq]
      show gd (cpG (0 : Int32) (0 : Int32) (s3.1 70 16) 80000 80000) (nm s4 (fun s3 => L_X10_countSwitches_66 en (d + 3) (nI L + (1 : Int32)) s3)) = some r
      rw [gd_true (by rw [e16]; exact ⟨⟨by decide, by decide, nI_pos (by omega)⟩, by rw [n_cl (by omega)]; show 0 + lb2 ≤ 80000; omega, by rw [n_cl (by omega)]; show 0 + lb2 ≤ 80000; omega⟩), nm_eq, show nI L + (1 : Int32) = nI (L + 1) from n_ar]
      exact hr
    by_cases hb0 : lb2 = 0
    · refine ⟨s4, T2, start _ (x_exit (by omega) (by rw [e15, hb0])), (f1.tr q2).tr f4, e96, sw_gr hX hJ (L := L + 1) (by omega) (fun v hv => ?_) q5.2.1 q6⟩
      rcases q5.1 v hv with z | z
      · have h1 : ¬ T2 v = L + 1 := fun y => by
          obtain ⟨i, a, b⟩ := q5.2.2.2.2.1.2 v hv y
          omega
        omega
      · exact Or.inr z
    · obtain ⟨i1, i2, ⟨i3, i3'⟩, ⟨i4, i4'⟩, ⟨i5, i5'⟩, i7, i7'⟩ := q5
      have hI' : swV P w nt X (L + 1) T2 B2 B2 lb2 0 := by
        refine ⟨fun j hj => ?_, i2, ⟨i3', Nat.zero_le _⟩, ⟨i4', fun i hi => absurd hi (Nat.not_lt_zero _)⟩, ⟨i5', fun j hj z => ?_⟩, ?_, Or.inl rfl⟩
        · rcases i1 j hj with z | z
          · exact Or.inl (by omega)
          · exact Or.inr z
        · exfalso
          rcases i1 j hj with y | y <;> omega
        · rcases i7' with z | z
          · exact absurd z hb0
          · exact z
      obtain ⟨s5, T5, r1, r2, r3, r4⟩ := ih (L + 1) s4 T2 B2 B2 lb2 (by omega) (((hE.fr f1).fr q2).fr f4) ⟨e96, e97, fun i hi => absurd hi (Nat.not_lt_zero _), e15⟩ hI' q6
      exact ⟨s5, T5, start _ r1, ((f1.tr q2).tr f4).tr r2, r3, r4⟩
theorem x_start21 (hX : XV P w nc nl nt n X) (hJ : XJ X (xN X + 1)) :
    ∀ (m e : Nat) (s : qS) (T A : Nat → Nat) (la : Nat), e + m = xA X 1 → xA X 0 ≤ e → swE P w nt X s → swP s T A A la 0 → swV P w nt X 0 T A A la 0 → (∀ e', xA X 0 ≤ e' → e' < e → T (4 * (xE X e').1 + (xE X e').2 / 10) = 0) →
    ∃ (s' : qS) (T' A' : Nat → Nat) (la' : Nat), (∀ r, L_X10_countSwitches_66 en (d + 3) (nI 0) s' = some r → L_X10_countSwitches_21 en (d + 3) (nI e) s = some r) ∧ swF s s' ∧ swP s' T' A' A' la' 0 ∧ swV P w nt X 0 T' A' A' la' 0 ∧ swC P w nt X 0 T' := by
  have hlim := @lim_le w
  have hxN := hX.1
  have hxM := hX.2.2.2.1
  have hJm := hJ.2.1 1 (by omega)
  intro m
  induction m with
  | zero =>
    intro e s T A la he hke hE hP' hI hr
    refine ⟨s, T, A, la, fun r hh => le_X10_countSwitches_21 en _ _ _ _ ?_, swF.rf, hP', hI, fun e' a b => hr e' a (by omega), fun v _ z => absurd z (Nat.not_lt_zero _)⟩
    rw [hE.2.1 1 (by omega), if_pos (by rw [n_LE (by omega) (by omega)]; omega)]
    exact hh
  | succ m ih =>
    intro e s T A la he hke hE hP' hI hr
    obtain ⟨eN, e40⟩ := hX.2.2.2.2.1 e (by omega)
    have hv : 4 * (xE X e).1 + (xE X e).2 / 10 < 4 * xN X := by omega
    generalize ht : (xE X e).2 / 10 = t at hv
    have ht4 : t < 4 := by omega
    obtain ⟨s1, T1, A1, B1, la1, lb1, r1, r2, r3, r4, r5, r6, r7, r8⟩ := x_reach (en := en) (d := d + 2) (L := 0) (c := 0) (by omega) (by decide) hP' (Or.inl rfl) hI hv (fun U hU hb => by
      rw [show (4 * (xE X e).1 + t) / 4 = (xE X e).1 by omega, show (4 * (xE X e).1 + t) % 4 = t by omega]
      have := hU.1 e hke (by omega)
      rw [ht] at this
      omega)
    obtain ⟨-, hlb⟩ := r5 rfl
    subst hlb
    have hP1 : swP s1 T1 A1 A1 la1 0 := ⟨r3.1, r3.2.1, fun i hi => absurd hi (Nat.not_lt_zero _), r3.2.2.2⟩
    have hI1 : swV P w nt X 0 T1 A1 A1 la1 0 := ⟨r6.1, r6.2.1, r6.2.2.1, ⟨r6.2.2.2.1.1, fun i hi => absurd hi (Nat.not_lt_zero _)⟩, ⟨r6.2.2.2.2.1.1, fun j hj z => by
      obtain ⟨i, a, b⟩ := r6.2.2.2.2.1.2 j hj z
      omega⟩, r6.2.2.2.2.2⟩
    obtain ⟨s2, T2, A2, la2, q1, q2, q3⟩ := ih (e + 1) s1 T1 A1 la1 (by omega) (by omega) (hE.fr r2) hP1 hI1 (fun e' a b => by
      by_cases z : e' = e
      · rw [z, ht]; omega
      · have h1 := hr e' a (by omega)
        have h2 := r7.1 (4 * (xE X e').1 + (xE X e').2 / 10)
        omega)
    refine ⟨s2, T2, A2, la2, fun r hh => le_X10_countSwitches_21 en _ _ _ _ ?_, r2.tr q2, q3⟩
    have e188 := x_threadOf (en := en) (d := d + 2) (τ := s) (a := (xE X e).2) (t := (xE X e).1) e40 (by omega)
    have e187 := x_stateOf (en := en) (d := d + 2) (τ := s) (a := (xE X e).2) (t := (xE X e).1) e40 (by omega)
    rw [ht] at e188
    have r1' : qev en (d + 3) 195 [.ref 70, .int (nI (4 * (xE X e).1 + t)), .int (0 : Int32), .int (0 : Int32)] s = some (none, s1) := r1
    rw [hE.2.1 1 (by omega), if_neg (by rw [n_LE (by omega) (by omega)]; omega), gd_true (n_in (by omega) (by decide)), n_cl (by omega), hE.1 e (by omega), e187, bI_some, hE.1 e (by omega), e188, bI_some, n_mr, show (xE X e).1 * (4 : Nat) = 4 * (xE X e).1 from Nat.mul_comm _ _, nI_add, r1', bV_some, show nI e + (1 : Int32) = nI (e + 1) from n_ar]
    exact q1 r hh
/-- the switches counted -/
theorem x_count (hP : PV P nc nl nt n) (hX : XV P w nc nl nt n X) (hJ : XJ X (xN X + 1)) (hE : swE P w nt X τ) :
    ∃ (s' : qS) (T' : Nat → Nat), qev en (d + 4) 193 [.ref 70] τ = some (none, s') ∧ swF τ s' ∧ (∀ j, j < 80000 → s'.1 96 j = nI (T' j)) ∧ grT P w nt X 200000 (fun k l => T' (4 * k + l)) := by
  have hxN := hX.1
  let s1 : qS := uIr τ 96 (flI (τ.1 96) 200000 80000)
  let s2 : qS := uI s1 70 15 0
  have f2 : swF τ s2 := ⟨fun c a b x y => by show (uI s1 70 15 0).1 c = _; rw [uI_ne a]; exact uIr_ne b, fun j a b => by
    show (uI s1 70 15 0).1 70 j = _
    rw [g_I, if_neg (fun z => a z.2)]
    exact congrFun (uIr_ne (by decide)) j, rfl⟩
  have p2 : swP s2 (fun _ => 200000) (fun _ => 0) (fun _ => 0) 0 0 := ⟨fun j hj => by
    show (uI s1 70 15 0).1 96 j = _
    rw [uI_ne (by decide)]
    show (uIr τ 96 (flI (τ.1 96) 200000 80000)).1 96 j = _
    rw [uIr_row]
    exact if_pos hj, fun i hi => absurd hi (Nat.not_lt_zero _), fun i hi => absurd hi (Nat.not_lt_zero _), by
    show (uI s1 70 15 0).1 70 15 = _
    rw [g_I, if_pos ⟨rfl, rfl⟩]; rfl⟩
  have i2 : swV P w nt X 0 (fun _ => 200000) (fun _ => 0) (fun _ => 0) 0 0 := ⟨fun _ _ => Or.inr rfl, fun U _ hb k hk l hl => hb k hk l hl, ⟨Nat.zero_le _, Nat.zero_le _⟩, ⟨fun i hi => absurd hi (Nat.not_lt_zero _), fun i hi => absurd hi (Nat.not_lt_zero _)⟩, ⟨fun j _ z => absurd z (by show ¬ (200000 : Nat) = 0; decide), fun j _ z => absurd z (by show ¬ (200000 : Nat) = 0 + 1; decide)⟩, Nat.zero_le _, Or.inl rfl⟩
  have hA01 := hJ.1 0 1 (by omega) (by omega)
  obtain ⟨s3, T3, A3, la3, q1, q2, q3, q4, q5⟩ := x_start21 (en := en) (d := d) hX hJ (xA X 1 - xA X 0) (xA X 0) s2 _ _ 0 (by omega) (Nat.le_refl _) (hE.fr f2) p2 i2 (fun e' a b => by omega)
  obtain ⟨s4, T4, r1, r2, r3, r4⟩ := x_outer (en := en) (d := d) hP hX hJ 80001 0 s3 T3 A3 A3 la3 (by omega) ((hE.fr f2).fr q2) q3 q4 q5
  refine ⟨s4, T4, le_X10_countSwitches en _ _ _ ?_, (f2.tr q2).tr r2, r3, r4⟩
  rw [x_fillI (d := d + 2) (z := 96) rfl (by decide), bV_some, nm_eq]
  show L_X10_countSwitches_21 en (d + 3) (s2.1 92 0) s2 = some (none, s4)
  rw [(hE.fr f2).2.1 0 (by omega)]
  exact q1 _ r1
end SWO

