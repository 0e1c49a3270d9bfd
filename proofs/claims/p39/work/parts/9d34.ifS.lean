/-! THE READER, the class's own: the law's if. -/
section IFS
variable {en : pN} {d th c M L k v i j nt v5 : Nat} {NW : Nat → Nat} {C V : fI} {s s' s1 s2 : qS} {K : List (Nat × Nat)} {lw : List Nat} {x z pt : Int32} {bl : Nat → List Nat} {Km tm : Nat → Nat} {e : Nat × Nat}
theorem it_IF (h : RB s ((314, 13542) :: (2, 112) :: (123, 0) :: (2, 121) :: (61, 0) :: (3, 2) :: (59, 0) :: (125, 0) :: (316, 213596645) :: (123, 0) :: (2, 113) :: (61, 0) :: (3, 5) :: (59, 0) :: (125, 0) :: e :: K) th c M L nt NW C V lw bl Km tm) (hn : NWc NW) (hth : th < nt) (hnt : nt ≤ 4) (hL : L + 3 ≤ 100) (hc : c + 30 < 400) (hM : M + 30 < 400) (hv : v5 ≤ 100) :
    ∃ s' c' M' lw', LPs en 90 1 (-1) pt (lstX (bl th) (-1)) (nI L) v5 s s' ∧ RB s' (e :: K) th c' M' (L + 3) nt NW C V lw' (at1 (at1 (at1 bl th (bl th ++ [L])) (4 + 2 * L) [L + 1]) (5 + 2 * L) [L + 2]) (at1 (at1 (at1 Km L th) (L + 1) (4 + 2 * L)) (L + 2) (5 + 2 * L)) (at1 (at1 (at1 tm L th) (L + 1) th) (L + 2) th) ∧ c' ≤ c + 18 ∧ M' ≤ M + 18 ∧ kpL s s' th L ∧ (s'.1 18 L = nI 17 ∧ s'.1 18 (L + 1) = nI 2 ∧ s'.1 18 (L + 2) = nI 0) ∧ s'.1 19 L = nI th ∧ s'.1 19 (L + 1) = nI th ∧ s'.1 19 (L + 2) = nI th := by
  obtain ⟨s2, e99, e100, g1, g2, g3, g4, g5, f1, f2, f3⟩ := x_newL (en := en) (key := th) (pa := -1) (pt := pt) (lv := 1 - 1) h hth hnt (by omega) (Or.inl ⟨rfl, rfl⟩) (fun p hp => by omega)
  have em := x_may (en := en) h.1 hn h.2.1 (Or.inr ⟨by decide, by decide⟩) (by omega)
  have t14 : nI L ≠ nI (L + 1) := fun z => by have := (nI_eq (by omega) (by omega)).mp z; omega
  -- the condition
  obtain ⟨s3, a3, k3, d3⟩ := x_advK (en := en) (d := 0) g2
  have r3 := RSb_ad g1 d3
  have o3 := x_obN (en := en) (N := L) (k := 17) k3 r3 hn (Or.inr ⟨rfl, Or.inl rfl⟩) (by decide)
  obtain ⟨r4, k4⟩ := tl_k (N := L) (k := 17) r3 k3
  obtain ⟨s5, c5, M5, CL5, LD5, lw5, O5, Q5, e5, k5, r5, w5, l5, p5, n5, m5, m6, c6, x5⟩ := x_expL (en := en) r4 k4 g3 (Or.inl rfl) hn (by omega) (by omega) rfl
  have r6 := RSb_at (f := 6) (i := L) (x := nI M5) r5 (by decide)
  have k6 := LKs_uI (a := 24) (i := L) (x := nI M5) k5 (by decide) (by decide) (by decide)
  have h5 : at1 bl th (bl th ++ [L]) (5 + 2 * L) = [] := by
    rw [at1_n (by omega)]
    exact TRs_no h.2.2.2.1 hnt (Or.inr rfl)
  have h4 : at1 bl th (bl th ++ [L]) (4 + 2 * L) = [] := by
    rw [at1_n (by omega)]
    exact TRs_no h.2.2.2.1 hnt (Or.inl rfl)
  obtain ⟨q1, q2, q3, q4⟩ := it_fin (s' := uI s5 24 L (nI M5)) h.2.2.2.2 hnt hth g1 g3 g4 (fun a ha => f1 a (by omega)) f2 k6 r6 ⟨w5, l5, p5, n5, m5, by omega, (by omega : c5 ≤ c + 6)⟩ (fun f i hf => by
    rw [up2_n (by omega), up2_n (by omega), up2_n (by omega)]) (k := 17) (by
    unfold LNg
    simp (disch := decide) only [up2_a, up2_m]
    exact ⟨trivial, ⟨by decide, by decide⟩, fun _ y => absurd y (by decide), fun _ y => absurd y (by decide), Or.inl ⟨g5.1, by decide⟩, ⟨M, M5, rfl, rfl, Nat.le_refl _, x5⟩, ⟨0, 0, g5.2.1, g5.2.2, Nat.zero_le _, EXG_0⟩⟩) h5 (fun i hi => (h.2.2.2.1.2.2.2.2.1 i hi).1.1)
  have t1 : at1 tm L th L = th := at1_s
  -- the first block
  obtain ⟨s7, c7, M7, lw7, b1, b2, b3, b4, b5, b6, b7⟩ := rb_one (en := en) (v1 := 2) (pa := nI L) (pt := nI 0) (key := 4 + 2 * L) (k := 2) (K' := (123, 0) :: (2, 113) :: (61, 0) :: (3, 5) :: (59, 0) :: (125, 0) :: e :: K) (z2 := 0) (e := (316, 213596645)) q1 (by decide) hn hth hnt (by omega) (Or.inr ⟨L, 0, by omega, by decide, rfl, rfl, rfl, t1⟩) h4 (fun p hp => absurd hp (by omega)) (fun p hp => absurd hp (by omega)) (Or.inl ⟨rfl, Or.inl ⟨1, by decide⟩⟩) (by decide) (fun s2 r g w nw => x_STORE (o := 1) r g (List.cons_ne_nil _ _) (fun s1 A1 r' g' => x_expN r' g' w (by omega) (by omega) rfl) hn (by decide) (by omega) nw (by omega))
  have t2 : at1 (at1 tm L th) (L + 1) th L = th := by rw [at1_n (by omega)]; exact t1
  have h5' : at1 (at1 bl th (bl th ++ [L])) (4 + 2 * L) [L + 1] (5 + 2 * L) = [] := by rw [at1_n (by omega)]; exact h5
  -- else
  obtain ⟨s8, a8, k8, d8⟩ := x_skipY (en := en) (d := 0) b2.2.1
  have q8 := RB_ad b2 d8 k8
  have e17 : s8.1 18 L = 17 := by
    rw [d8.1 18 (by decide), (b5.1 L (by omega)).1]; exact q3
  obtain ⟨s9, c9, M9, lw9, j1, j2, j3, j4, j5, j6, j7⟩ := rb_one (en := en) (v1 := 2) (pa := nI L) (pt := nI 1) (key := 5 + 2 * L) (k := 0) (K' := K) (z2 := 0) (e := e) q8 (by decide) hn hth hnt (by omega) (Or.inr ⟨L, 1, by omega, by decide, by omega, rfl, rfl, t2⟩) h5' (fun p hp => by
    obtain rfl : L = p := by omega
    exact e17) (fun p hp => by omega) (Or.inl ⟨rfl, Or.inr (Or.inr rfl)⟩) (by decide) (fun s2 r g w nw => x_SET r g (Or.inl (by decide)) (fun CL LD lw w' s1 A1 r' g' => x_expN r' g' w' (by omega) (by omega) rfl) w hn (Or.inr rfl) (by omega) nw)
  have z8 := kpL_ad (th := th) (L := L + 2) d8
  refine ⟨s9, c9, M9, lw9, fun D hD r hr => ?_, j2, by omega, by omega, ?_, ⟨?_, ?_, j6⟩, ?_, ?_, j7⟩
  · obtain ⟨D, rfl⟩ : ∃ z, D = z + 2 := ⟨D - 2, by omega⟩
    refine le_X6_readBlock_35 en _ _ _ _ _ _ _ _ ?_
    obtain ⟨kk1, -, kk3⟩ := LKs_at h.2.1
    have e124 : qev en (D + 2) 124 [.ref 65, .int (nI L), .int (1 : Int32)] s2 = some (none, s9) := by
      refine le_X6_readStatement en _ _ _ _ _ ?_
      rw [(LKs_at g2).1, if_pos (by decide), nm_eq, show nI 314 - (300 : Int32) + (3 : Int32) = nI 17 from by decide, show qev en (D + 1) 167 [.ref 1] s2 = _ from qev_up D 1 (by omega) a3, bV_some, o3 (D + 1) (by omega), bV_some]
      refine x_47 r3.1.2.2 r3.2.2.1.1 (by omega) _ ?_
      rw [x_hasE (by decide), hxB_yes (by decide), bI_some, if_neg (by decide), e5 (D + 1) (by omega), bV_some]
      refine x_90 r5.1.2.2 r5.2.2.1.1 (by omega) (by decide) (by decide) _ ?_
      refine x_149 (by decide) (by decide) _ ?_
      refine le_X6_readStatement_164 en _ _ _ _ _ _ ?_
      rw [if_pos (show nI 17 = (17 : Int32) from rfl)]
      refine le_X6_readStatement_183 en _ _ _ _ _ _ ?_
      rw [show (1 : Int32) + 1 = 2 from rfl, show qev en (D + 1) 122 [.ref 65, .int (2 : Int32), .int (nI L), .int (0 : Int32)] _ = _ from b1 (D + 1) (by omega), bV_some, if_neg (by decide), show qev en (D + 1) 116 [.ref 65, .int (316 : Int32)] s7 = _ from qev_up (D - 1) 2 (by omega) a8, bI_some, if_neg (by decide), show qev en (D + 1) 122 [.ref 65, .int (2 : Int32), .int (nI L), .int (1 : Int32)] s8 = _ from j1 (D + 1) (by omega), bV_some]
    rw [if_neg (by rw [n_lt (by decide) (by omega)]; omega), if_neg (by rw [kk1]; decide), em (D + 2) (by omega), bI_some, if_pos (by decide), h.1.2.2.2.2.1.1, show qev en (D + 2) 99 [.ref 11, .int (nI th), .int (-1 : Int32), .int pt, .int ((1 : Int32) - 1)] s = _ from qev_up (D + 1) 1 (by omega) e99, bI_some, qev_up (D := D + 2) (D + 1) 1 (by omega) e100, bV_some, e124, bV_some, show nI v5 + (1 : Int32) = nI (v5 + 1) from n_ar]
    exact hr
  · exact ((q2.tr b5 (Nat.le_succ _)).tr z8 (by omega)).tr j5 (by omega)
  · exact ((j5.1 L (by omega)).1.trans (z8.1 L (by omega)).1).trans ((b5.1 L (by omega)).1.trans q3)
  · exact ((j5.1 (L + 1) (by omega)).1.trans (z8.1 (L + 1) (by omega)).1).trans b6
  · exact ((j5.1 L (by omega)).2.trans (z8.1 L (by omega)).2).trans ((b5.1 L (by omega)).2.trans q4)
  · exact ((j5.1 (L + 1) (by omega)).2.trans (z8.1 (L + 1) (by omega)).2).trans b7
end IFS
