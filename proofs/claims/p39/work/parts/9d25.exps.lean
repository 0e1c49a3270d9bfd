/-! THE READER, the class's own: words, locals, expressions of the law's programs. -/
/-- what a call gives, with so many frames or more -/
abbrev QV (en : pN) (c n : Nat) (as : List Value) (s : qS) (r : qR) : Prop := ∀ D, c ≤ D → qev en D n as s = some r
theorem QV.of {en : pN} {c n : Nat} {as : List Value} {s : qS} {r : qR} (h : qev en c n as s = some r) : QV en c n as s r := fun D hD => qev_up (D - c) c (by omega) h
theorem QV.mo {en : pN} {c c' n : Nat} {as : List Value} {s : qS} {r : qR} (h : QV en c n as s r) (hc : c ≤ c') : QV en c' n as s r := fun D hD => h D (by omega)
/-- the locals that a thread has had so far: words p, q -/
abbrev LWc (CL : fI) (LD : Nat → Int64) (th : Nat) (lw : List Nat) : Prop := CL th = nI lw.length ∧ lw ∈ ([[], [112], [113], [112, 113], [113, 112]] : List (List Nat)) ∧ ∀ j, j < lw.length → LD (th * 6 + j) = Int64.ofNat (lw.getD j 0)
/-- what stays of locals while one thread is read -/
abbrev LWk (th : Nat) (CL CL' : fI) (LD LD' : Nat → Int64) : Prop := (∀ u, u ≠ th → CL' u = CL u) ∧ ∀ j, j < th * 6 ∨ th * 6 + 6 ≤ j → LD' j = LD j
/-- names that the law's programs have, as far as locals go: p, q are none -/
abbrev NWc (NW : Nat → Nat) : Prop := (∀ j, j < 16 → NW j < 2 ^ 40) ∧ NW 0 = 120 ∧ NW 1 = 121 ∧ NW 2 = 122 ∧ NW 8 = 97 ∧ NW 9 = 98 ∧ ∀ j, j < 16 → NW j ≠ 112 ∧ NW j ≠ 113 ∧ (NW j = 120 → j = 0) ∧ (NW j = 121 → j = 1) ∧ (NW j = 122 → j = 2) ∧ (NW j = 97 → j = 8) ∧ (NW j = 98 → j = 9)
theorem LWk.rf {th : Nat} {CL : fI} {LD : Nat → Int64} : LWk th CL CL LD LD := ⟨fun _ _ => rfl, fun _ _ => rfl⟩
theorem LWk.tr {th : Nat} {CL CL' CL'' : fI} {LD LD' LD'' : Nat → Int64} (h : LWk th CL CL' LD LD') (g : LWk th CL' CL'' LD' LD'') : LWk th CL CL'' LD LD'' := ⟨fun u hu => (g.1 u hu).trans (h.1 u hu), fun j hj => (g.2 j hj).trans (h.2 j hj)⟩
section EXK
variable {en : pN} {d th c M L k v i j l D : Nat} {NW : Nat → Nat} {C V CL H : fI} {LD : Nat → Int64} {A : Nat → fI} {O Q : fI} {s s' s1 : qS} {K : List (Nat × Nat)} {x y : Int32} {b : Nat × Nat} {lw : List Nat}
theorem fnd_cg {f g : Nat → Int64} {m : Int64} : ∀ k i, (∀ j, i ≤ j → j < i + k → f j = g j) → fnd f m k i = fnd g m k i := by
  intro k
  induction k with
  | zero => intro i _; rfl
  | succ k ih =>
    intro i h
    unfold fnd
    rw [h i (Nat.le_refl i) (by omega), ih (i + 1) (fun j h1 h2 => h j (by omega) (by omega))]
/-- what a word names -/
theorem x_namedK (h : RSb s th c M L NW C V CL H LD A O Q) (hN : NWc NW) : (v = 112 ∨ v = 113 → qev en (d + 1) 84 [.ref 11, .long (Int64.ofNat v)] s = some (some (.int (-1)), s)) ∧ (∀ w, (w = 0 ∧ v = 120) ∨ (w = 1 ∧ v = 121) ∨ (w = 2 ∧ v = 122) ∨ (w = 8 ∧ v = 97) ∨ (w = 9 ∧ v = 98) → qev en (d + 1) 84 [.ref 11, .long (Int64.ofNat v)] s = some (some (.int (nI w)), s)) := by
  have e := c_named (en := en) (d := d) (r := 11) (m := Int64.ofNat v) (σ := s) rfl
  have n6 := h.2.2.2.2.2.1
  obtain ⟨hb, n0, n1, n2, n8, n9, nn⟩ := hN
  have hj : ∀ j, j < 16 → v < 2 ^ 40 → (s.2.1 (11 + 1) j = Int64.ofNat v ↔ NW j = v) := by
    intro j hj hv
    show s.2.1 12 j = _ ↔ _
    rw [n6 j hj]
    exact i64_inj (by have := hb j hj; omega) (by omega)
  rcases fnd_is (f := s.2.1 (11 + 1)) (m := Int64.ofNat v) 16 0 with ⟨a1, a2⟩ | ⟨j, a1, a2, a3, a4, a5⟩
  · constructor
    · intro hv
      rw [e, a1]
    · intro w hw
      exfalso
      have hv : v < 2 ^ 40 := by omega
      have : NW w = v ∧ w < 16 := by
        rcases hw with ⟨rfl, rfl⟩ | ⟨rfl, rfl⟩ | ⟨rfl, rfl⟩ | ⟨rfl, rfl⟩ | ⟨rfl, rfl⟩
        · exact ⟨n0, by decide⟩
        · exact ⟨n1, by decide⟩
        · exact ⟨n2, by decide⟩
        · exact ⟨n8, by decide⟩
        · exact ⟨n9, by decide⟩
      exact a2 w (Nat.zero_le _) (by omega) ((hj w this.2 hv).mpr this.1)
  · constructor
    · intro hv
      exfalso
      have := (hj j (by omega) (by omega)).mp a4
      have := nn j (by omega)
      omega
    · intro w hw
      have hv : v < 2 ^ 40 := by omega
      have q := (hj j (by omega) hv).mp a4
      have qn := nn j (by omega)
      have : j = w := by omega
      rw [e, a3, this]
/-- the local that stands here -/
theorem x_lclK (h : RSb s th c M L NW C V CL H LD A O Q) (hk : LKs s ((2, v) :: K)) (hw : LWc CL LD th lw) (hv : v = 112 ∨ v = 113) : ∃ s' j CL' LD' lw', QV en 2 128 [.ref 65] s (some (.int (nI j)), s') ∧ LKs s' ((2, v) :: K) ∧ RSb s' th c M L NW C V CL' H LD' A O Q ∧ LWc CL' LD' th lw' ∧ j < lw'.length ∧ lw.length ≤ lw'.length ∧ LWk th CL CL' LD LD' := by
  obtain ⟨w1, w2, w3⟩ := hw
  have hl2 : lw.length ≤ 2 := by
    simp only [List.mem_cons, List.not_mem_nil, or_false] at w2
    rcases w2 with rfl | rfl | rfl | rfl | rfl <;> decide
  have e14 := h.2.2.2.2.1.1
  have th4 := h.2.2.2.2.1.2
  have eC : s.1 14 th = nI lw.length := ((h.2.2.2.2.2.2.2.2.1 th th4).1).trans w1
  have eL := h.2.2.2.2.2.2.2.2.2.1
  have em := (LKs_at hk).2.1
  have ef := c_find (en := en) (d := 0) (a := 13) (p := th * 6) (c := lw.length) (m := Int64.ofNat v) (σ := s) rfl (show th * 6 + lw.length ≤ 24 by omega) (by decide)
  have hf : ∀ j, j < lw.length → s.2.1 13 (th * 6 + j) = Int64.ofNat (lw.getD j 0) := fun j hj => (eL _ (by omega)).trans (w3 j hj)
  have b14 : p_inB (nI th) 4 = true := inB_nI th4 (by decide)
  rcases fnd_is (f := fun j => s.2.1 13 (th * 6 + j)) (m := Int64.ofNat v) lw.length 0 with ⟨a1, a2⟩ | ⟨j, a1, a2, a3, a4, a5⟩
  · have hne : ∀ j, j < lw.length → lw.getD j 0 ≠ v := by
      intro j hj z
      exact a2 j (Nat.zero_le _) (by omega) (by show s.2.1 13 (th * 6 + j) = _; rw [hf j hj, z])
    refine ⟨uI (uJ s 13 (th * 6 + lw.length) (Int64.ofNat v)) 14 th (nI (lw.length + 1)), lw.length, upd CL th (nI (lw.length + 1)), (fun z => if z = th * 6 + lw.length then Int64.ofNat v else LD z), lw ++ [v], QV.of (c := 2) ?_, ?_, ?_, ?_, ?_, ?_, ?_⟩
    · refine le_X6_localHere en 1 s _ ?_
      have e98 : qev en 1 98 [.ref 11, .int (nI th), .long (Int64.ofNat v)] s = some (some (.int (nI lw.length)), uI (uJ s 13 (th * 6 + lw.length) (Int64.ofNat v)) 14 th (nI (lw.length + 1))) := by
        refine le_X5_addLocal en 0 11 (nI th) (Int64.ofNat v) s _ ?_
        have e5 : (uJ s 13 (th * 6 + lw.length) (Int64.ofNat v)).1 14 th = nI lw.length := eC
        have e6 : (uI (uJ s 13 (th * 6 + lw.length) (Int64.ofNat v)) 14 th (nI (lw.length + 1))).1 14 th = nI (lw.length + 1) := by rw [g_I, if_pos ⟨rfl, rfl⟩]
        rw [gd_true (show lc 11 = 5 from rfl), gd_true b14]
        simp only [n_cl (show th < 2 ^ 31 by omega), n_mr, eC, nI_add]
        rw [gd_true (inB_nI (by omega) (by decide)), nm_eq, n_cl (show th * 6 + lw.length < 2 ^ 31 by omega), nm_eq]
        show some (some (Value.int ((uI (uJ s 13 (th * 6 + lw.length) (Int64.ofNat v)) 14 th ((uJ s 13 (th * 6 + lw.length) (Int64.ofNat v)).1 14 th + 1)).1 14 th - 1)), uI (uJ s 13 (th * 6 + lw.length) (Int64.ofNat v)) 14 th ((uJ s 13 (th * 6 + lw.length) (Int64.ofNat v)).1 14 th + 1)) = _
        rw [e5, nI_1, e6, show (1 : Int32) = nI 1 from rfl, nI_sub (by omega)]
        rfl
      rw [e14, gd_true b14, em]
      simp only [n_cl (show th < 2 ^ 31 by omega), n_mr, eC]
      rw [ef, bI_some, a1, if_pos (by decide), e14, gd_true b14]
      simp only [n_cl (show th < 2 ^ 31 by omega), eC]
      rw [if_pos (show nI lw.length < (6 : Int32) from nI_lt (b := 6) (by omega) (by decide)), em, e98, bI_some]
    · exact LKs_fr hk rfl (fun _ => rfl) (fun _ => rfl) rfl (fun _ => rfl)
    · obtain ⟨⟨a1, a2, a3⟩, b, m, l, t, n, cc, vv, ch, ld, aa, nd⟩ := h
      refine ⟨⟨a1, a2, a3⟩, b, m, l, t, fun j hj => ?_, cc, vv, fun u hu => ⟨?_, (ch u hu).2⟩, fun j hj => ?_, fun f hf i hi => ?_, nd⟩
      · rw [← n j hj]
        show (if (12 : Nat) = 13 ∧ j = th * 6 + lw.length then Int64.ofNat v else s.2.1 12 j) = s.2.1 12 j
        rw [if_neg (fun z => absurd z.1 (by decide))]
      · rw [uI_row]
        show (if u = th then _ else (uJ s 13 _ _).1 14 u) = if u = th then _ else CL u
        by_cases q : u = th
        · rw [if_pos q, if_pos q]
        · rw [if_neg q, if_neg q]; exact (ch u hu).1
      · show (if (13 : Nat) = 13 ∧ j = th * 6 + lw.length then Int64.ofNat v else s.2.1 13 j) = if j = th * 6 + lw.length then Int64.ofNat v else LD j
        by_cases q : j = th * 6 + lw.length
        · rw [if_pos ⟨rfl, q⟩, if_pos q]
        · rw [if_neg (fun z => q z.2), if_neg q]; exact ld j hj
      · rw [uI_ne (by omega)]; exact aa f hf i hi
    · refine ⟨?_, ?_, fun j hj => ?_⟩
      · rw [List.length_append]; exact if_pos rfl
      · simp only [List.mem_cons, List.not_mem_nil, or_false] at w2
        rcases w2 with rfl | rfl | rfl | rfl | rfl
        · rcases hv with rfl | rfl <;> decide
        · rcases hv with rfl | rfl
          · exact absurd rfl (hne 0 (by decide))
          · decide
        · rcases hv with rfl | rfl
          · decide
          · exact absurd rfl (hne 0 (by decide))
        · rcases hv with rfl | rfl
          · exact absurd rfl (hne 0 (by decide))
          · exact absurd rfl (hne 1 (by decide))
        · rcases hv with rfl | rfl
          · exact absurd rfl (hne 1 (by decide))
          · exact absurd rfl (hne 0 (by decide))
      · rw [List.length_append] at hj
        have hj : j < lw.length + 1 := hj
        show (if th * 6 + j = th * 6 + lw.length then Int64.ofNat v else LD (th * 6 + j)) = _
        by_cases q : j = lw.length
        · rw [if_pos (by omega), q, getD_app2 (Nat.le_refl _), Nat.sub_self]; rfl
        · rw [if_neg (by omega), getD_app1 (by omega)]; exact w3 j (by omega)
    · rw [List.length_append]; exact Nat.lt_succ_self _
    · rw [List.length_append]; exact Nat.le_succ _
    · exact ⟨fun u hu => if_neg hu, fun j hj => if_neg (by omega)⟩
  · refine ⟨s, j, CL, LD, lw, QV.of (c := 2) ?_, hk, h, ⟨w1, w2, w3⟩, by omega, Nat.le_refl _, LWk.rf⟩
    refine le_X6_localHere en 1 s _ ?_
    rw [e14, gd_true b14, em]
    simp only [n_cl (show th < 2 ^ 31 by omega), n_mr, eC]
    rw [ef, bI_some, a3, if_neg (nI_pos (by omega))]
/-! one operand -/
theorem x_oneN (h : RSb s th c M L NW C V CL H LD A O Q) (hk : LKs s ((3, v) :: b :: K)) (hc : c < 400) (hM : M < 400) : ∃ s', QV en 8 139 [.ref 65, .int (1 : Int32)] s (none, s') ∧ LKs s' (b :: K) ∧ RSb s' th (c + 1) (M + 1) L NW C V CL H LD A (upd O M 1) (upd Q M (nI v)) := by
  obtain ⟨k1, k2, k3⟩ := LKs_at hk
  obtain ⟨s1, e1, g1, r1⟩ := x_cntK (en := en) (d := 5) h hk hc
  obtain ⟨s2, e2, g2, r2⟩ := x_putK (en := en) (d := 4) (x := 1) (y := nI v) r1 g1 hM
  obtain ⟨s3, e3, g3, r3⟩ := x_advK (en := en) (d := 5) g2
  refine ⟨s3, QV.of (c := 8) ?_, g3, RSb_ad r2 r3⟩
  refine le_X6_readOne en 7 1 s _ ?_
  have hb := x_begK (en := en) (d := 6) (s := s) (law := false) (show 3 < 2 ^ 31 by decide) h.1.2.1
  rw [k1, hb, bI_some, if_pos (by decide)]
  have hs : qev en 7 138 [.ref 65] s = some (some (.int 0), s) := by
    refine le_X6_isStray en 6 s _ ?_
    rw [k1, if_neg (by decide)]
  rw [hs, bI_some, if_pos rfl, if_pos (by decide), if_pos (by decide), e1, bI_some, if_neg (by decide)]
  have hn : qev en 7 140 [.ref 65, .int (nI 3), .int (1 : Int32)] s1 = some (none, s3) := by
    refine le_X6_readNode en 6 (nI 3) 1 s1 _ ?_
    have k2' := (LKs_at g1).2.1
    rw [if_neg (by decide), r1.1.2.2, gd_true ⟨by decide, rfl⟩, nm_eq, k2', i64_32, e2, bV_some, e3, bV_some]
  rw [hn, bV_some]
theorem x_oneL (h : RSb s th c M L NW C V CL H LD A O Q) (hk : LKs s ((2, v) :: b :: K)) (hw : LWc CL LD th lw) (hv : v = 112 ∨ v = 113) (hN : NWc NW) (hc : c < 400) (hM : M < 400) : ∃ s' j CL' LD' lw', QV en 9 139 [.ref 65, .int (1 : Int32)] s (none, s') ∧ LKs s' (b :: K) ∧ RSb s' th (c + 1) (M + 1) L NW C V CL' H LD' A (upd O M 2) (upd Q M (nI (16 + th * 6 + j))) ∧ LWc CL' LD' th lw' ∧ j < lw'.length ∧ lw.length ≤ lw'.length ∧ LWk th CL CL' LD LD' := by
  obtain ⟨k1, k2, k3⟩ := LKs_at hk
  obtain ⟨s1, e1, g1, r1⟩ := x_cntK (en := en) (d := 6) h hk hc
  obtain ⟨s2, j, CL', LD', lw', e2, g2, r2, w2, j2, l2, p2⟩ := x_lclK (en := en) r1 g1 hw hv
  obtain ⟨s3, e3, g3, r3⟩ := x_putK (en := en) (d := 4) (x := 2) (y := nI (16 + th * 6 + j)) r2 g2 hM
  obtain ⟨s4, e4, g4, r4⟩ := x_advK (en := en) (d := 5) g3
  refine ⟨s4, j, CL', LD', lw', QV.of (c := 9) ?_, g4, RSb_ad r3 r4, w2, j2, l2, p2⟩
  refine le_X6_readOne en 8 1 s _ ?_
  have hb := x_begK (en := en) (d := 7) (s := s) (law := false) (show 2 < 2 ^ 31 by decide) h.1.2.1
  rw [k1, hb, bI_some, if_pos (by decide)]
  have hs : qev en 8 138 [.ref 65] s = some (some (.int 0), s) := by
    refine le_X6_isStray en 7 s _ ?_
    rw [k1, if_pos (by decide), k2, (x_namedK (en := en) (d := 6) h hN).1 hv, bI_some, h.1.2.1, if_pos rfl, if_pos (by decide)]
  rw [hs, bI_some, if_pos rfl, if_pos (by decide), if_pos (by decide), e1, bI_some, if_neg (by decide)]
  have hn : qev en 8 140 [.ref 65, .int (nI 2), .int (1 : Int32)] s1 = some (none, s4) := by
    refine le_X6_readNode en 7 (nI 2) 1 s1 _ ?_
    rw [if_pos (by decide), if_neg (by decide), if_pos (by decide), r1.1.2.1, if_pos rfl]
    refine le_X6_readNode_99 en 7 (nI 2) s1 _ ?_
    have hl2 : lw'.length ≤ 2 := by
      have w2 := w2.2.1
      simp only [List.mem_cons, List.not_mem_nil, or_false] at w2
      rcases w2 with rfl | rfl | rfl | rfl | rfl <;> decide
    have hsl : qev en 7 32 [.int (nI th), .int (nI j)] s2 = some (some (.int (nI (16 + th * 6 + j))), s2) := x_local (en := en) (d := 6) h.2.2.2.2.1.2
    rw [r1.1.2.1, if_pos rfl, e2 7 (by decide), bI_some, if_neg (nI_pos (by omega)), r2.1.2.2, gd_true ⟨by decide, rfl⟩, nm_eq, r2.2.2.2.2.1.1, hsl, bI_some, qev_up 1 6 rfl e3, bV_some, qev_up 1 6 rfl e4, bV_some]
  rw [hn, bV_some]
end EXK
