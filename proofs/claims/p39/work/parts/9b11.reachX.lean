/-! SWITCHES, the class's side: a node reached. -/
/-- what the count of switches may change -/
abbrev swF (τ s : qS) : Prop := (∀ c, c ≠ 70 → c ≠ 96 → c ≠ 97 → c ≠ 98 → s.1 c = τ.1 c) ∧ (∀ j, j ≠ 15 → j ≠ 16 → s.1 70 j = τ.1 70 j) ∧ s.2 = τ.2
/-- the table and the two layers, as they lie -/
abbrev swP (s : qS) (T A B : Nat → Nat) (la lb : Nat) : Prop := (∀ j, j < 80000 → s.1 96 j = nI (T j)) ∧ (∀ i, i < la → s.1 97 i = nI (A i)) ∧ (∀ i, i < lb → s.1 98 i = nI (B i)) ∧ s.1 70 15 = nI la
/-- what holds of them at a level -/
abbrev swV (P : Nat → fI) (w nt : Nat) (X : xT) (L : Nat) (T A B : Nat → Nat) (la lb : Nat) : Prop :=
  (∀ j, j < 80000 → T j ≤ L + 1 ∨ T j = 200000) ∧
  (∀ U, clT P w nt X U → (∀ k, k < xN X → ∀ l, l < 4 → U k l ≤ 200000) → ∀ k, k < xN X → ∀ l, l < 4 → U k l ≤ T (4 * k + l)) ∧
  (la ≤ cqL T L 80000 ∧ lb ≤ cqL T (L + 1) 80000) ∧
  ((∀ i, i < la → A i < 4 * xN X ∧ T (A i) ≤ L) ∧ ∀ i, i < lb → B i < 4 * xN X ∧ T (B i) ≤ L + 1) ∧
  ((∀ j, j < 80000 → T j = L → ∃ i, i < la ∧ A i = j) ∧ ∀ j, j < 80000 → T j = L + 1 → ∃ i, i < lb ∧ B i = j) ∧
  (L ≤ cqL T 199999 80000 ∧ (lb = 0 ∨ L + 1 ≤ cqL T 199999 80000))
/-- how a table goes on -/
abbrev swG (L : Nat) (T T' A A' : Nat → Nat) (la la' : Nat) : Prop := (∀ j, T' j ≤ T j) ∧ (∀ j, T j ≤ L → T' j = T j) ∧ (∀ j, T' j = T j ∨ L ≤ T' j) ∧ (∀ i, i < la → A' i = A i) ∧ la ≤ la'
section SWX
variable {en : pN} {d d' w nc nl nt n p L v c la lb k l e : Nat} {P : Nat → fI} {τ s s' s'' : qS} {X : xT} {fw : Bool} {T T' T'' A A' A'' B : Nat → Nat}
theorem swF.rf : swF τ τ := ⟨fun _ _ _ _ _ => rfl, fun _ _ _ => rfl, rfl⟩
theorem swF.tr (h : swF s s') (g : swF s' s'') : swF s s'' := ⟨fun c a b x y => (g.1 c a b x y).trans (h.1 c a b x y), fun j a b => (g.2.1 j a b).trans (h.2.1 j a b), g.2.2.trans h.2.2⟩
theorem swG.rf : swG L T T A A la la := ⟨fun _ => Nat.le_refl _, fun _ _ => rfl, fun _ => Or.inl rfl, fun _ _ => rfl, Nat.le_refl _⟩
theorem swG.tr {la' la'' : Nat} (h : swG L T T' A A' la la') (g : swG L T' T'' A' A'' la' la'') : swG L T T'' A A'' la la'' := by
  obtain ⟨h1, h2, h3, h4, h5⟩ := h
  obtain ⟨g1, g2, g3, g4, g5⟩ := g
  refine ⟨fun j => Nat.le_trans (g1 j) (h1 j), fun j hj => ?_, fun j => ?_, fun i hi => ?_, Nat.le_trans h5 g5⟩
  · rw [g2 j (by rw [h2 j hj]; exact hj), h2 j hj]
  · rcases g3 j with q | q
    · rcases h3 j with z | z
      · exact Or.inl (q.trans z)
      · exact Or.inr (by rw [q]; exact z)
    · exact Or.inr q
  · rw [g4 i (by omega), h4 i hi]
theorem x_reach (hN : xN X ≤ 20000) (hL : L ≤ 80000) (h : swP s T A B la lb) (hc : c = 0 ∨ (c = 1 ∧ s.1 70 16 = nI lb)) (I : swV P w nt X L T A B la lb) (hv : v < 4 * xN X) (hs : ∀ U, clT P w nt X U → (∀ k, k < xN X → ∀ l, l < 4 → U k l ≤ 200000) → U (v / 4) (v % 4) ≤ L + c) :
    ∃ (s' : qS) (T' A' B' : Nat → Nat) (la' lb' : Nat), qev en (d + 1) 195 [.ref 70, .int (nI v), .int (nI L), .int (nI c)] s = some (none, s') ∧ swF s s' ∧ swP s' T' A' B' la' lb' ∧ (s.1 70 16 = nI lb → s'.1 70 16 = nI lb') ∧ (c = 0 → s'.1 70 16 = s.1 70 16 ∧ lb' = lb) ∧ swV P w nt X L T' A' B' la' lb' ∧ swG L T T' A A' la la' ∧ T' v ≤ L + c := by
  obtain ⟨p1, p2, p3, p4⟩ := h
  obtain ⟨i1, i2, ⟨i3, i3'⟩, ⟨i4, i4'⟩, ⟨i5, i5'⟩, i7, i7'⟩ := I
  have hT : T v ≤ 200000 := by
    rcases i1 v (by omega) with z | z <;> omega
  have eLc : nI L + nI c = nI (L + c) := nI_add L c
  have cla := cqL_le (T := T) (b := L) 80000
  have clb := cqL_le (T := T) (b := L + 1) 80000
  by_cases q : T v ≤ L + c
  · refine ⟨s, T, A, B, la, lb, le_X10_reach en _ _ _ _ _ _ ?_, swF.rf, ⟨p1, p2, p3, p4⟩, fun z => z, fun _ => ⟨rfl, rfl⟩, ⟨i1, i2, ⟨i3, i3'⟩, ⟨i4, i4'⟩, ⟨i5, i5'⟩, i7, i7'⟩, swG.rf, q⟩
    rw [gd_true (n_in (by omega) (by decide)), n_cl (by omega), p1 v (by omega), eLc, if_neg (by rw [n_LT (by omega) (by omega)]; omega)]
  have gG : ∀ j, at1 T v (L + c) j ≤ T j := fun j => by
    by_cases z : j = v
    · rw [z, at1_s]; omega
    · rw [at1_n z]; exact Nat.le_refl _
  have gL : ∀ j, T j ≤ L → at1 T v (L + c) j = T j := fun j hj => at1_n (fun z => by rw [z] at hj; omega)
  have gM : ∀ j, at1 T v (L + c) j = T j ∨ L ≤ at1 T v (L + c) j := fun j => by
    by_cases z : j = v
    · right; rw [z, at1_s]; omega
    · exact Or.inl (at1_n z)
  have j2 : ∀ U, clT P w nt X U → (∀ k, k < xN X → ∀ l, l < 4 → U k l ≤ 200000) → ∀ k, k < xN X → ∀ l, l < 4 → U k l ≤ at1 T v (L + c) (4 * k + l) := fun U hU hb k hk l hl => by
    by_cases z : 4 * k + l = v
    · rw [z, at1_s]
      have := hs U hU hb
      rw [show v / 4 = k by omega, show v % 4 = l by omega] at this
      exact this
    · rw [at1_n z]; exact i2 U hU hb k hk l hl
  have j1 : ∀ j, j < 80000 → at1 T v (L + c) j ≤ L + 1 ∨ at1 T v (L + c) j = 200000 := fun j hj => by
    by_cases z : j = v
    · left; rw [z, at1_s]; omega
    · rw [at1_n z]; exact i1 j hj
  have start : ∀ r, (nm (uI s 96 v (nI (L + c))) (fun s3 => if ¬ nI c = (0 : Int32) then gd (p_inB (s3.1 70 16) 80000 = true) (nm (uI s3 98 ((s3.1 70 16).toNatClampNeg) (nI v)) (fun s6 => nm (uI s6 70 16 ((s6.1 70 16) + (1 : Int32))) (fun s7 => some (none, s7)))) else gd (p_inB (s3.1 70 15) 80000 = true) (nm (uI s3 97 ((s3.1 70 15).toNatClampNeg) (nI v)) (fun s9 => nm (uI s9 70 15 ((s9.1 70 15) + (1 : Int32))) (fun s10 => some (none, s10))))) : Option qR) = some r → qev en (d + 1) 195 [.ref 70, .int (nI v), .int (nI L), .int (nI c)] s = some r := by
    intro r hh
    refine le_X10_reach en _ _ _ _ _ _ ?_
    rw [gd_true (n_in (by omega) (by decide)), n_cl (by omega), p1 v (by omega), eLc, if_pos (by rw [n_LT (by omega) (by omega)]; omega)]
    exact hh
  have e96 : ∀ j, j < 80000 → upd (s.1 96) v (nI (L + c)) j = nI (at1 T v (L + c) j) := fun j hj => by
    by_cases z : j = v
    · rw [z, pk_us, at1_s]
    · rw [pk_un z, at1_n z]; exact p1 j hj
  rcases hc with rfl | ⟨rfl, h16⟩
  · -- within the level
    have hla := cqL_lt (b := L) 80000 (show v < 80000 by omega) (show ¬ T v ≤ L by omega)
    have hup := cqL_up (T := T) (b := L) (x := L + 0) 80000 (show v < 80000 by omega) (by omega) (by omega)
    refine ⟨uI (uI (uI s 96 v (nI (L + 0))) 97 la (nI v)) 70 15 (nI (la + 1)), at1 T v (L + 0), at1 A la v, B, la + 1, lb, start _ ?_, ⟨fun c a b x y => ?_, fun j a b => ?_, rfl⟩, ⟨fun j hj => ?_, fun i hi => ?_, fun i hi => ?_, ?_⟩, fun z => ?_, fun _ => ⟨?_, rfl⟩, ⟨j1, j2, ⟨by omega, Nat.le_trans i3' (cqL_dn (by omega))⟩, ⟨fun i hi => ?_, fun i hi => ?_⟩, ⟨fun j hj hT' => ?_, fun j hj hT' => ?_⟩, Nat.le_trans i7 (cqL_dn (by omega)), ?_⟩, ⟨gG, gL, gM, fun i hi => at1_n (by omega), Nat.le_succ _⟩, by rw [at1_s]; exact Nat.le_refl _⟩
    · have f15 : (uI s 96 v (nI (L + 0))).1 70 15 = nI la := by rw [uI_ne (by decide)]; exact p4
      have f15' : (uI (uI s 96 v (nI (L + 0))) 97 la (nI v)).1 70 15 = nI la := by rw [uI_ne (by decide)]; exact f15
      rw [nm_eq, if_neg (show ¬ ¬ nI 0 = (0 : Int32) from not_not_intro rfl), f15, gd_true (n_in (by omega) (by decide)), nm_eq, n_cl (by omega), nm_eq, f15', show nI la + (1 : Int32) = nI (la + 1) from n_ar]
    · rw [uI_ne a, uI_ne x, uI_ne b]
    · rw [g_I, if_neg (fun z => a z.2), uI_ne (by decide), uI_ne (by decide)]
    · rw [uI_ne (by decide), uI_ne (by decide), uI_row]; exact e96 j hj
    · rw [uI_ne (by decide), uI_row]
      by_cases z : i = la
      · rw [z, pk_us, at1_s]
      · rw [pk_un z, at1_n z, uI_ne (by decide)]; exact p2 i (by omega)
    · rw [uI_ne (by decide), uI_ne (by decide), uI_ne (by decide)]; exact p3 i hi
    · rw [g_I, if_pos ⟨rfl, rfl⟩]
    · rw [g_I, if_neg (by decide), uI_ne (by decide), uI_ne (by decide)]; exact z
    · rw [g_I, if_neg (by decide), uI_ne (by decide), uI_ne (by decide)]
    · by_cases z : i = la
      · rw [z, at1_s, at1_s]; exact ⟨hv, by omega⟩
      · rw [at1_n z]
        obtain ⟨a, b⟩ := i4 i (by omega)
        rw [gL _ b]; exact ⟨a, b⟩
    · obtain ⟨a, b⟩ := i4' i hi
      exact ⟨a, Nat.le_trans (gG _) b⟩
    · by_cases z : j = v
      · exact ⟨la, by omega, by rw [at1_s, z]⟩
      · rw [at1_n z] at hT'
        obtain ⟨i, a, b⟩ := i5 j hj hT'
        exact ⟨i, by omega, by rw [at1_n (by omega)]; exact b⟩
    · have z : j ≠ v := fun z => by rw [z, at1_s] at hT'; omega
      rw [at1_n z] at hT'
      exact i5' j hj hT'
    · rcases i7' with z | z
      · exact Or.inl z
      · exact Or.inr (Nat.le_trans z (cqL_dn (by omega)))
  · -- a level further
    have hTv : T v = 200000 := by
      rcases i1 v (by omega) with z | z <;> omega
    have hlb := cqL_lt (b := L + 1) 80000 (show v < 80000 by omega) (show ¬ T v ≤ L + 1 by omega)
    have hup := cqL_up (T := T) (b := L + 1) (x := L + 1) 80000 (show v < 80000 by omega) (by omega) (by omega)
    have hup2 := cqL_up (T := T) (b := 199999) (x := L + 1) 80000 (show v < 80000 by omega) (by omega) (by omega)
    refine ⟨uI (uI (uI s 96 v (nI (L + 1))) 98 lb (nI v)) 70 16 (nI (lb + 1)), at1 T v (L + 1), A, at1 B lb v, la, lb + 1, start _ ?_, ⟨fun c a b x y => ?_, fun j a b => ?_, rfl⟩, ⟨fun j hj => ?_, fun i hi => ?_, fun i hi => ?_, ?_⟩, fun z => ?_, fun z => absurd z (by decide), ⟨j1, j2, ⟨Nat.le_trans i3 (cqL_dn (by omega)), by omega⟩, ⟨fun i hi => ?_, fun i hi => ?_⟩, ⟨fun j hj hT' => ?_, fun j hj hT' => ?_⟩, Nat.le_trans i7 (cqL_dn (by omega)), Or.inr (by omega)⟩, ⟨gG, gL, gM, fun _ _ => rfl, Nat.le_refl _⟩, by rw [at1_s]; exact Nat.le_refl _⟩
    · have f16 : (uI s 96 v (nI (L + 1))).1 70 16 = nI lb := by rw [uI_ne (by decide)]; exact h16
      have f16' : (uI (uI s 96 v (nI (L + 1))) 98 lb (nI v)).1 70 16 = nI lb := by rw [uI_ne (by decide)]; exact f16
      rw [nm_eq, if_pos (show ¬ nI 1 = (0 : Int32) by decide), f16, gd_true (n_in (by omega) (by decide)), nm_eq, n_cl (by omega), nm_eq, f16', show nI lb + (1 : Int32) = nI (lb + 1) from n_ar]
    · rw [uI_ne a, uI_ne y, uI_ne b]
    · rw [g_I, if_neg (fun z => b z.2), uI_ne (by decide), uI_ne (by decide)]
    · rw [uI_ne (by decide), uI_ne (by decide), uI_row]; exact e96 j hj
    · rw [uI_ne (by decide), uI_ne (by decide), uI_ne (by decide)]; exact p2 i hi
    · rw [uI_ne (by decide), uI_row]
      by_cases z : i = lb
      · rw [z, pk_us, at1_s]
      · rw [pk_un z, at1_n z, uI_ne (by decide)]; exact p3 i (by omega)
    · rw [g_I, if_neg (by decide), uI_ne (by decide), uI_ne (by decide)]; exact p4
    · rw [g_I, if_pos ⟨rfl, rfl⟩]
    · obtain ⟨a, b⟩ := i4 i hi
      rw [gL _ b]; exact ⟨a, b⟩
    · by_cases z : i = lb
      · rw [z, at1_s, at1_s]; exact ⟨hv, Nat.le_refl _⟩
      · rw [at1_n z]
        obtain ⟨a, b⟩ := i4' i (by omega)
        exact ⟨a, Nat.le_trans (gG _) b⟩
    · have z : j ≠ v := fun z => by rw [z, at1_s] at hT'; omega
      rw [at1_n z] at hT'
      exact i5 j hj hT'
    · by_cases z : j = v
      · exact ⟨lb, by omega, by rw [at1_s, z]⟩
      · rw [at1_n z] at hT'
        obtain ⟨i, a, b⟩ := i5' j hj hT'
        exact ⟨i, by omega, by rw [at1_n (by omega)]; exact b⟩
end SWX

