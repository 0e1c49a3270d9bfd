/-! THE READER, the class's own: one declaration. -/
section DCL
variable {en : pN} {d th c M L k v i j nt nc nl u q z v2 v3 w5 : Nat} {NW : Nat → Nat} {C V CL H : fI} {LD : Nat → Int64} {A : Nat → fI} {O Q : fI} {s s' s1 : qS} {K : List (Nat × Nat)} {b : Nat × Nat} {x y : Int32}
/-- a cell is declared, its word next -/
theorem x_rdC (h : RSb s th c M L NW C V CL H LD A O Q) (hk : LKs s ((2, v) :: b :: K)) (hb : ∀ j, j < 16 → NW j < 2 ^ 40 ∧ NW j ≠ v) (hv : v < 2 ^ 40) (h9 : C 9 = nI nc) (hnc : nc < 8) (h11 : C 11 = nI 0) (hK : b :: K = (59, z) :: K → True) (ht : ∃ (q : Nat × Nat) (T : List (Nat × Nat)), (b = (59, z) ∧ K = q :: T) ∨ (b = (318, v2) ∧ K = (59, z) :: q :: T)) :
    ∃ (s' : qS) (C' V' : fI) (T : List (Nat × Nat)), QV en 10 119 [.ref 65] s (none, s') ∧ (K = T ∨ K = (59, z) :: T) ∧ LKs s' T ∧ RSb s' th c M L (at1 NW nc v) C' V' CL H LD A O Q ∧ C' 9 = nI (nc + 1) ∧ C' 10 = C 10 ∧ (C' 11 = C 11 ∧ C' 8 = C 8) ∧ (∀ j, j < 8 → V' j = if j = nc then 0 else V j) ∧ (∀ T', T = T' → T' = if b.1 = 59 then K else K.tail) := by
  have e9 : s.1 11 9 = nI nc := (h.2.2.2.2.2.2.1 9 (by decide) (by decide)).trans h9
  have en1 := x_newN (en := en) (x := nI nc) (y := 8) h hk hb hv h11 (by decide) (fun u hu => absurd hu (by omega)) (by rw [n_gt (by decide) (by omega)]; exact hnc)
  have ea := x_addCell (en := en) (d := 0) (v := v) e9 hnc
  have r1 : RSb (ncX s nc v) th c M L (at1 NW nc v) (upd C 9 (nI (nc + 1))) (upd V nc 0) CL H LD A O Q := RSb_C (RSb_V (RSb_nm h)) (by decide)
  have g1 : LKs (ncX s nc v) ((2, v) :: b :: K) := LKs_uI (LKs_uI (LKs_uJ hk) (by decide) (by decide) (by decide)) (by decide) (by decide) (by decide)
  obtain ⟨s2, e2, g2, f2⟩ := x_advK (en := en) (d := 0) g1
  have r2 := RSb_ad r1 f2
  have hV : ∀ j, j < 8 → upd V nc 0 j = if j = nc then 0 else V j := fun j _ => rfl
  have hC : ∀ j, j ≠ 9 → upd C 9 (nI (nc + 1)) j = C j := fun j hj => if_neg hj
  obtain ⟨q, T, ⟨rfl, rfl⟩ | ⟨rfl, rfl⟩⟩ := ht
  · obtain ⟨s3, e3, g3, f3⟩ := need59 (en := en) g2
    refine ⟨s3, _, _, q :: T, fun D hD => ?_, Or.inl rfl, g3, RSb_ad r2 f3, if_pos rfl, hC 10 (by decide), ⟨hC 11 (by decide), hC 8 (by decide)⟩, hV, fun T' hT => hT.symm⟩
    obtain ⟨D, rfl⟩ : ∃ z, D = z + 4 + 1 := ⟨D - 5, by omega⟩
    refine le_X6_readCell en _ _ _ ?_
    rw [e9, en1 (D + 4) (by omega), bI_some, if_pos (by decide), (LKs_at hk).2.1, qev_up (D := D + 4) (D + 3) 1 (by omega) ea, bI_some, qev_up (D := D + 4) (D + 3) 1 (by omega) e2, bV_some, show qev en (D + 4) 116 [.ref 65, .int (318 : Int32)] s2 = _ from x_skipN (d := D + 2) g2 (by decide), bI_some, if_pos rfl]
    refine le_X6_readCell_64 en _ _ _ _ ?_
    rw [show qev en (D + 4) 116 [.ref 65, .int (61 : Int32)] s2 = _ from x_skipN (d := D + 2) g2 (by decide), bI_some, if_pos rfl]
    refine le_X6_readCell_113 en _ _ _ ?_
    rw [e3 (D + 4) (by omega), bV_some]
  · obtain ⟨s3, e3, g3, f3⟩ := x_skipY (en := en) (d := 0) g2
    have r3 := RSb_ad r2 f3
    have r4 := RSb_C (q := 7) (x := (s3.1 11 7) ||| ((1 : Int32) <<< (nI nc &&& 31))) r3 (by decide)
    have g4 := LKs_uI (a := 11) (i := 7) (x := (s3.1 11 7) ||| ((1 : Int32) <<< (nI nc &&& 31))) g3 (by decide) (by decide) (by decide)
    obtain ⟨s5, e5, g5, f5⟩ := need59 (en := en) g4
    refine ⟨s5, _, _, q :: T, fun D hD => ?_, Or.inr rfl, g5, RSb_ad r4 f5, ?_, ?_, ?_, hV, fun T' hT => hT.symm⟩
    · obtain ⟨D, rfl⟩ : ∃ z, D = z + 4 + 1 := ⟨D - 5, by omega⟩
      refine le_X6_readCell en _ _ _ ?_
      rw [e9, en1 (D + 4) (by omega), bI_some, if_pos (by decide), (LKs_at hk).2.1, qev_up (D := D + 4) (D + 3) 1 (by omega) ea, bI_some, qev_up (D := D + 4) (D + 3) 1 (by omega) e2, bV_some, show qev en (D + 4) 116 [.ref 65, .int (318 : Int32)] s2 = _ from qev_up (D + 2) 2 (by omega) e3, bI_some, if_neg (by decide), nm_eq]
      refine le_X6_readCell_64 en _ _ _ _ ?_
      rw [show qev en (D + 4) 116 [.ref 65, .int (61 : Int32)] _ = _ from x_skipN (d := D + 2) g4 (by decide), bI_some, if_pos rfl]
      refine le_X6_readCell_113 en _ _ _ ?_
      rw [e5 (D + 4) (by omega), bV_some]
    · show upd (upd C 9 (nI (nc + 1))) 7 _ 9 = _
      exact (if_neg (by decide)).trans (if_pos rfl)
    · show upd (upd C 9 (nI (nc + 1))) 7 _ 10 = _
      exact (if_neg (by decide)).trans (if_neg (by decide))
    · exact ⟨(if_neg (by decide)).trans (if_neg (by decide)), (if_neg (by decide)).trans (if_neg (by decide))⟩
/-- a lock is declared -/
theorem x_rdK (h : RSb s th c M L NW C V CL H LD A O Q) (hk : LKs s ((2, v) :: (59, z) :: b :: K)) (hb : ∀ j, j < 16 → NW j < 2 ^ 40 ∧ NW j ≠ v) (hv : v < 2 ^ 40) (h10 : C 10 = nI nl) (hnl : nl < 4) (h11 : C 11 = nI 0) :
    ∃ (s' : qS) (C' : fI), QV en 10 120 [.ref 65] s (none, s') ∧ LKs s' (b :: K) ∧ RSb s' th c M L (at1 NW (8 + nl) v) C' V CL H LD A O Q ∧ C' 9 = C 9 ∧ C' 10 = nI (nl + 1) ∧ C' 11 = C 11 ∧ C' 8 = C 8 := by
  have e10 : s.1 11 10 = nI nl := (h.2.2.2.2.2.2.1 10 (by decide) (by decide)).trans h10
  have en1 := x_newN (en := en) (x := nI nl) (y := 4) h hk hb hv h11 (by decide) (fun u hu => absurd hu (by omega)) (by rw [n_gt (by decide) (by omega)]; exact hnl)
  have ea : qev en 1 96 [.ref 11, .long (Int64.ofNat v)] s = some (none, nlX s nl v) := by
    refine le_X5_addLock en _ _ _ _ _ ?_
    have e8 : (8 : Int32) + nI nl = nI (8 + nl) := (Int32.ofNat_add 8 nl).symm
    rw [gd_true (show lc 11 = 5 from rfl), e10, e8, gd_in (by omega) (by decide), n_cl (by omega), nm_eq, show (uJ s (11 + 1) (8 + nl) (Int64.ofNat v)).1 11 10 = nI nl from e10, show nI nl + (1 : Int32) = nI (nl + 1) from n_ar, nm_eq]
    rfl
  have r1 : RSb (nlX s nl v) th c M L (at1 NW (8 + nl) v) (upd C 10 (nI (nl + 1))) V CL H LD A O Q := RSb_C (RSb_nm h) (by decide)
  have g1 : LKs (nlX s nl v) ((2, v) :: (59, z) :: b :: K) := LKs_uI (LKs_uJ hk) (by decide) (by decide) (by decide)
  obtain ⟨s2, e2, g2, f2⟩ := x_advK (en := en) (d := 0) g1
  obtain ⟨s3, e3, g3, f3⟩ := need59 (en := en) g2
  refine ⟨s3, _, fun D hD => ?_, g3, RSb_ad (RSb_ad r1 f2) f3, if_neg (by decide), if_pos rfl, if_neg (by decide), if_neg (by decide)⟩
  obtain ⟨D, rfl⟩ : ∃ z, D = z + 4 + 1 := ⟨D - 5, by omega⟩
  refine le_X6_readLock en _ _ _ ?_
  rw [e10, en1 (D + 4) (by omega), bI_some, if_neg (by decide), (LKs_at hk).2.1, qev_up (D := D + 4) (D + 3) 1 (by omega) ea, bV_some, qev_up (D := D + 4) (D + 3) 1 (by omega) e2, bV_some, e3 (D + 4) (by omega), bV_some]
/-- a thread is declared, up to its block -/
theorem x_rdT (h : RSb s th c M L NW C V CL H LD A O Q) (hk : LKs s ((2, v) :: (123, z) :: K)) (hb : ∀ j, j < 16 → NW j < 2 ^ 40 ∧ NW j ≠ v) (hv : v < 2 ^ 40) (h11 : C 11 = nI nt) (hnt : nt < 4) (hlc : noLc CL LD nt v) :
    ∃ (s' : qS), (∀ D r, 10 ≤ D → qev en D 122 [.ref 65, .int (1 : Int32), .int (-1 : Int32), .int (0 : Int32)] s' = some (none, r) → qev en (D + 1) 121 [.ref 65] s = some (none, r)) ∧ LKs s' ((123, z) :: K) ∧ RSb s' nt c M L (at1 NW (12 + nt) v) (upd C 11 (nI (nt + 1))) V CL (upd H nt (-1)) LD A O Q := by
  have e11 : s.1 11 11 = nI nt := (h.2.2.2.2.2.2.1 11 (by decide) (by decide)).trans h11
  have en1 := x_newN (en := en) (x := nI nt) (y := 4) h hk hb hv h11 (by omega) hlc (by rw [n_gt (by decide) (by omega)]; exact hnt)
  have ea : qev en 1 97 [.ref 11, .long (Int64.ofNat v)] s = some (some (.int (nI nt)), uI (uI (uJ s 12 (12 + nt) (Int64.ofNat v)) 16 nt (-1)) 11 11 (nI (nt + 1))) := by
    refine le_X5_addThread en _ _ _ _ _ ?_
    have e8 : (12 : Int32) + nI nt = nI (12 + nt) := (Int32.ofNat_add 12 nt).symm
    rw [gd_true (show lc 11 = 5 from rfl), e11, e8, gd_in (by omega) (by decide), n_cl (by omega), nm_eq, show (uJ s (11 + 1) (12 + nt) (Int64.ofNat v)).1 11 11 = nI nt from e11, gd_in (by omega) (by decide), n_cl (by omega), nm_eq, show (uI (uJ s (11 + 1) (12 + nt) (Int64.ofNat v)) (11 + 5) nt (-1)).1 11 11 = nI nt from e11, show nI nt + (1 : Int32) = nI (nt + 1) from n_ar, nm_eq]
    have e7 : (uI (uI (uJ s 12 (12 + nt) (Int64.ofNat v)) 16 nt (-1)) 11 11 (nI (nt + 1))).1 11 11 = nI (nt + 1) := by rw [g_I, if_pos ⟨rfl, rfl⟩]
    show some (some (Value.int ((uI (uI (uJ s 12 (12 + nt) (Int64.ofNat v)) 16 nt (-1)) 11 11 (nI (nt + 1))).1 11 11 - 1)), _) = _
    rw [e7, show (1 : Int32) = nI 1 from rfl, nI_sub (by omega)]
    rfl
  have r1 : RSb (uI (uI (uI (uJ s 12 (12 + nt) (Int64.ofNat v)) 16 nt (-1)) 11 11 (nI (nt + 1))) 65 14 (nI nt)) nt c M L (at1 NW (12 + nt) v) (upd C 11 (nI (nt + 1))) V CL (upd H nt (-1)) LD A O Q := RSb_th (RSb_C (RSb_hd (RSb_nm h)) (by decide)) hnt
  have g1 : LKs (uI (uI (uI (uJ s 12 (12 + nt) (Int64.ofNat v)) 16 nt (-1)) 11 11 (nI (nt + 1))) 65 14 (nI nt)) ((2, v) :: (123, z) :: K) := LKs_uI (LKs_uI (LKs_uI (LKs_uJ hk) (by decide) (by decide) (by decide)) (by decide) (by decide) (by decide)) (by decide) (by decide) (by decide)
  obtain ⟨s2, e2, g2, f2⟩ := x_advK (en := en) (d := 0) g1
  refine ⟨s2, fun D r hD hr => ?_, g2, RSb_ad r1 f2⟩
  obtain ⟨D, rfl⟩ : ∃ z, D = z + 4 := ⟨D - 4, by omega⟩
  refine le_X6_readThread en _ _ _ ?_
  rw [e11, en1 (D + 4) (by omega), bI_some, if_neg (by decide), (LKs_at hk).2.1, qev_up (D := D + 4) (D + 3) 1 (by omega) ea, bI_some, nm_eq, qev_up (D := D + 4) (D + 3) 1 (by omega) e2, bV_some, show qev en (D + 4) 116 [.ref 65, .int (320 : Int32)] s2 = _ from x_skipN (d := D + 2) g2 (by decide), bI_some, if_pos rfl]
  refine le_X6_readThread_68 en _ _ _ ?_
  rw [hr, bV_some]
end DCL
