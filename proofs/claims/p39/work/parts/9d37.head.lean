/-! THE READER, the class's own: cells, locks, threads declared. -/
section HDR
variable {en : pN} {d th c M L k v i j nt nc nl u q z : Nat} {NW : Nat → Nat} {C V CL H : fI} {LD : Nat → Int64} {A : Nat → fI} {O Q : fI} {s s' s1 : qS} {K : List (Nat × Nat)} {b : Nat × Nat} {x y : Int32}
theorem RSb_nm (h : RSb s th c M L NW C V CL H LD A O Q) : RSb (uJ s 12 q (Int64.ofNat v)) th c M L (at1 NW q v) C V CL H LD A O Q := by
  obtain ⟨a, b, m, l, t, n, cc, vv, ch, ld, aa, nd⟩ := h
  refine ⟨a, b, m, l, t, fun j hj => ?_, cc, vv, ch, fun j hj => ?_, aa, nd⟩
  · rw [rdJ]
    by_cases z : j = q
    · rw [if_pos ⟨rfl, z⟩, z, at1_s]
    · rw [if_neg (fun y => z y.2), at1_n z]; exact n j hj
  · rw [rdJ, if_neg (fun y => absurd y.1 (by decide))]; exact ld j hj
theorem RSb_C (h : RSb s th c M L NW C V CL H LD A O Q) (hj : 7 ≤ q ∧ q ≤ 11) : RSb (uI s 11 q x) th c M L NW (upd C q x) V CL H LD A O Q := by
  obtain ⟨⟨a1, a2, a3⟩, b, m, l, t, n, cc, vv, ch, ld, aa, nd⟩ := h
  have o : ∀ a, a ≠ 11 → (uI s 11 q x).1 a = s.1 a := fun a ha => uI_ne ha
  refine ⟨⟨?_, ?_, a3⟩, ?_, ?_, ?_, ?_, n, fun j h1 h2 => ?_, ?_, ?_, ld, ?_, ?_⟩
  · rw [o 65 (by decide)]; exact a1
  · rw [o 65 (by decide)]; exact a2
  · rw [o 65 (by decide)]; exact b
  · rw [o 7 (by decide)]; exact m
  · rw [g_I, if_neg (by omega)]; exact l
  · rw [o 65 (by decide)]; exact t
  · rw [uI_row]
    show (if j = q then x else s.1 11 j) = if j = q then x else C j
    by_cases z : j = q
    · rw [if_pos z, if_pos z]
    · rw [if_neg z, if_neg z]; exact cc j h1 h2
  · rw [o 15 (by decide)]; exact vv
  · rw [o 14 (by decide), o 16 (by decide)]; exact ch
  · intro f hf i hi
    rw [o (18 + f) (by omega)]; exact aa f hf i hi
  · rw [o 8 (by decide), o 9 (by decide)]; exact nd
theorem RSb_V (h : RSb s th c M L NW C V CL H LD A O Q) : RSb (uI s 15 q x) th c M L NW C (upd V q x) CL H LD A O Q := by
  obtain ⟨⟨a1, a2, a3⟩, b, m, l, t, n, cc, vv, ch, ld, aa, nd⟩ := h
  have o : ∀ a, a ≠ 15 → (uI s 15 q x).1 a = s.1 a := fun a ha => uI_ne ha
  refine ⟨⟨?_, ?_, a3⟩, ?_, ?_, ?_, ?_, n, ?_, fun j hj => ?_, ?_, ld, ?_, ?_⟩
  · rw [o 65 (by decide)]; exact a1
  · rw [o 65 (by decide)]; exact a2
  · rw [o 65 (by decide)]; exact b
  · rw [o 7 (by decide)]; exact m
  · rw [o 11 (by decide)]; exact l
  · rw [o 65 (by decide)]; exact t
  · rw [o 11 (by decide)]; exact cc
  · rw [uI_row]
    show (if j = q then x else s.1 15 j) = if j = q then x else V j
    by_cases z : j = q
    · rw [if_pos z, if_pos z]
    · rw [if_neg z, if_neg z]; exact vv j hj
  · rw [o 14 (by decide), o 16 (by decide)]; exact ch
  · intro f hf i hi
    rw [o (18 + f) (by omega)]; exact aa f hf i hi
  · rw [o 8 (by decide), o 9 (by decide)]; exact nd
theorem RSb_th (h : RSb s th c M L NW C V CL H LD A O Q) (hu : u < 4) : RSb (uI s 65 14 (nI u)) u c M L NW C V CL H LD A O Q := by
  obtain ⟨⟨a1, a2, a3⟩, b, m, l, t, n, cc, vv, ch, ld, aa, nd⟩ := h
  have o : ∀ a, a ≠ 65 → (uI s 65 14 (nI u)).1 a = s.1 a := fun a ha => uI_ne ha
  refine ⟨⟨?_, ?_, a3⟩, ⟨?_, b.2⟩, ?_, ?_, ⟨?_, hu⟩, n, ?_, ?_, ?_, ld, ?_, ?_⟩
  · rw [g_I, if_neg (by decide)]; exact a1
  · rw [g_I, if_neg (by decide)]; exact a2
  · rw [g_I, if_neg (by decide)]; exact b.1
  · rw [o 7 (by decide)]; exact m
  · rw [o 11 (by decide)]; exact l
  · rw [g_I, if_pos ⟨rfl, rfl⟩]
  · rw [o 11 (by decide)]; exact cc
  · rw [o 15 (by decide)]; exact vv
  · rw [o 14 (by decide), o 16 (by decide)]; exact ch
  · intro f hf i hi
    rw [o (18 + f) (by omega)]; exact aa f hf i hi
  · rw [o 8 (by decide), o 9 (by decide)]; exact nd
theorem LKs_uJ (h : LKs s K) {w : Int64} : LKs (uJ s 12 q w) K := LKs_fr h rfl (fun _ => rfl) (fun _ => rfl) (by funext j; exact (rdJ).trans (if_neg (fun y => absurd y.1 (by decide)))) (fun j => (rdJ).trans (if_neg (fun y => absurd y.1 (by decide))))
/-- a word that no thread has as a local -/
abbrev noLc (CL : fI) (LD : Nat → Int64) (nt v : Nat) : Prop := ∀ u, u < nt → ∃ n, n ≤ 6 ∧ CL u = nI n ∧ ∀ j, j < n → LD (u * 6 + j) ≠ Int64.ofNat v
/-- a new name -/
theorem x_newN (h : RSb s th c M L NW C V CL H LD A O Q) (hk : LKs s ((2, v) :: K)) (hb : ∀ j, j < 16 → NW j < 2 ^ 40 ∧ NW j ≠ v) (hv : v < 2 ^ 40) (h11 : C 11 = nI nt) (hnt : nt ≤ 4) (hlc : noLc CL LD nt v) (hxy : x < y) : ∀ D, 4 ≤ D → qev en D 118 [.ref 65, .int x, .int y] s = some (some (.int 1), s) := fun D hD => by
  obtain ⟨D, rfl⟩ : ∃ z, D = z + 3 := ⟨D - 3, by omega⟩
  obtain ⟨k1, k2, k3⟩ := LKs_at hk
  have e84 : ∀ D, qev en (D + 1) 84 [.ref 11, .long (Int64.ofNat v)] s = some (some (.int (-1)), s) := fun D => by
    have e := c_named (en := en) (d := D) (r := 11) (m := Int64.ofNat v) (σ := s) rfl
    rcases fnd_is (f := s.2.1 (11 + 1)) (m := Int64.ofNat v) 16 0 with ⟨a1, a2⟩ | ⟨j, a1, a2, a3, a4, a5⟩
    · rw [e, a1]
    · exfalso
      obtain ⟨b1, b2⟩ := hb j (by omega)
      have a4' : s.2.1 12 j = Int64.ofNat v := a4
      rw [h.2.2.2.2.2.1 j (by omega)] at a4'
      exact b2 ((i64_inj (by omega) (by omega)).mp a4')
  have e11 : s.1 11 11 = nI nt := (h.2.2.2.2.2.2.1 11 (by decide) (by decide)).trans h11
  have loop : ∀ (k w : Nat), w + k = nt → L_X5_isTold_2 en (D + 1) 11 (Int64.ofNat v) (nI w) s = some (some (.int 0), s) := by
    intro k
    induction k with
    | zero =>
      intro w hw
      refine le_X5_isTold_2 en _ _ _ _ _ _ ?_
      rw [gd_true (show lc 11 = 5 from rfl), e11, if_pos (by rw [n_LE (by omega) (by omega)]; omega), e84 D, bI_some, if_pos (by decide)]
    | succ k ih =>
      intro w hw
      obtain ⟨n, n6, c1, c2⟩ := hlc w (by omega)
      have c1' : s.1 14 w = nI n := ((h.2.2.2.2.2.2.2.2.1 w (by omega)).1).trans c1
      have e88 : qev en (D + 1) 88 [.ref 11, .int (nI w), .long (Int64.ofNat v)] s = some (some (.int (-1)), s) := by
        refine le_X5_localOf en _ _ _ _ _ _ ?_
        have ef := c_find (en := en) (d := D - 1) (a := 13) (p := w * 6) (c := n) (m := Int64.ofNat v) (σ := s) rfl (show w * 6 + n ≤ 24 by omega) (by decide)
        rcases fnd_is (f := fun j => s.2.1 13 (w * 6 + j)) (m := Int64.ofNat v) n 0 with ⟨a1, a2⟩ | ⟨j, a1, a2, a3, a4, a5⟩
        · cases D with
          | zero => omega
          | succ D =>
            rw [gd_true (show lc 11 = 5 from rfl), gd_in (by omega) (by decide), n_cl (by omega), c1', n_mr]
            rw [show qev en (D + 1) 83 [.ref (11 + 2), .int (nI (w * 6)), .int (nI n), .long (Int64.ofNat v)] s = _ from ef, a1, bI_some]
        · exfalso
          refine c2 j (by omega) ?_
          rw [← h.2.2.2.2.2.2.2.2.2.1 _ (by omega)]
          exact a4
      refine le_X5_isTold_2 en _ _ _ _ _ _ ?_
      rw [gd_true (show lc 11 = 5 from rfl), e11, if_neg (by rw [n_LE (by omega) (by omega)]; omega), e88, bI_some, if_pos (by decide), show nI w + (1 : Int32) = nI (w + 1) from n_ar]
      exact ih (w + 1) (by omega)
  have e89 : qev en (D + 2) 89 [.ref 11, .long (Int64.ofNat v)] s = some (some (.int 0), s) := by
    refine le_X5_isTold en _ _ _ _ _ ?_
    rw [gd_true (show lc 11 = 5 from rfl)]
    exact loop nt 0 (by omega)
  refine le_X6_isNewName en _ _ _ _ _ ?_
  rw [k1, if_pos (show nI 2 = (2 : Int32) from rfl), k2, e89, bI_some, if_pos rfl, if_pos hxy]
  refine le_X6_isNewName_54 en _ _ _ ?_
  rw [k1, if_neg (show ¬ ¬ nI 2 = (2 : Int32) from not_not_intro rfl)]
end HDR
