/-! THE READER, the class's own: an expression of one operand, or of two. -/
/-- nodes from a to e are an expression of thread th, which has lc locals -/
abbrev EXG (O Q : fI) (th lc a e : Nat) : Prop := a ≤ e ∧ dpk O Q 233 (e - a) a 0 ∧ ∀ j, a ≤ j → j < e → (O j = nI 2 → ∃ k, k < lc ∧ Q j = nI (16 + th * 6 + k)) ∧ O j ≠ nI 3
/-- an expression is read -/
abbrev XRes (en : pN) (th c M L : Nat) (NW : Nat → Nat) (C V CL H : fI) (LD : Nat → Int64) (A : Nat → fI) (O Q : fI) (lw : List Nat) (s : qS) (K : List (Nat × Nat)) : Prop :=
  ∃ (s' : qS) (c' M' : Nat) (CL' : fI) (LD' : Nat → Int64) (lw' : List Nat) (O' Q' : fI), QV en 40 134 [.ref 65, .int (0 : Int32), .int (1 : Int32)] s (none, s') ∧ LKs s' K ∧ RSb s' th c' M' L NW C V CL' H LD' A O' Q' ∧ LWc CL' LD' th lw' ∧ lw.length ≤ lw'.length ∧ LWk th CL CL' LD LD' ∧ (∀ j, j < M → O' j = O j ∧ Q' j = Q j) ∧ M ≤ M' ∧ M' ≤ M + 3 ∧ c' ≤ c + 3 ∧ EXG O' Q' th lw'.length M M'
theorem m1_nI {x : Int32} {i : Nat} (h : x = -1) (hi : i < 2 ^ 31) : x ≠ nI i := fun z => nI_pos hi (by rw [← z, h]; decide)
section EXQ
variable {en : pN} {th c c1 c2 M M2 L k v k2 v2 l a e lc W : Nat} {NW : Nat → Nat} {C V CL H : fI} {LD : Nat → Int64} {A : Nat → fI} {O Q O2 Q2 : fI} {s s' s1 : qS} {K : List (Nat × Nat)} {b : Nat × Nat} {lw : List Nat}
theorem sd_one (h : QV en c 139 [.ref 65, .int (1 : Int32)] s (none, s')) : QV en (c + 1) 135 [.ref 65, .int (nI 5), .int (1 : Int32)] s (none, s') := fun D hD => by
  obtain ⟨D, rfl⟩ : ∃ z, D = z + 1 := ⟨D - 1, by omega⟩
  refine le_X6_readSide en D (nI 5) 1 s _ ?_
  rw [if_pos (by decide), h D (by omega), bV_some]
theorem sd_lev (hl : l < 5) (h : QV en c 134 [.ref 65, .int (nI l), .int (1 : Int32)] s (none, s')) : QV en (c + 1) 135 [.ref 65, .int (nI l), .int (1 : Int32)] s (none, s') := fun D hD => by
  obtain ⟨D, rfl⟩ : ∃ z, D = z + 1 := ⟨D - 1, by omega⟩
  refine le_X6_readSide en D (nI l) 1 s _ ?_
  rw [if_neg (by rw [n_le (by decide) (by omega)]; omega), h D (by omega), bV_some]
theorem lev_no (hl : l < 5) (hc : 1 ≤ c) (h : QV en c 135 [.ref 65, .int (nI (l + 1)), .int (1 : Int32)] s (none, s')) (hk : LKs s' (b :: K)) (hv : lvV b.1 ≠ nI l) : QV en (c + 1) 134 [.ref 65, .int (nI l), .int (1 : Int32)] s (none, s') := fun D hD => by
  obtain ⟨D, rfl⟩ : ∃ z, D = z + 1 + 1 := ⟨D - 2, by omega⟩
  refine le_X6_readLevel en (D + 1) (nI l) 1 s _ ?_
  rw [show nI l + (1 : Int32) = nI (l + 1) from n_ar, h (D + 1) (by omega), bV_some]
  refine le_X6_readLevel_10 en (D + 1) (nI l) 1 0 s' _ ?_
  obtain ⟨k1, -, k3⟩ := LKs_at hk
  rw [if_neg (by decide), k1, x_levelOf (by omega), bI_some, if_pos hv]
theorem up_no (hl : l < 5) (hc : 1 ≤ c) (h : QV en c 135 [.ref 65, .int (nI (l + 1)), .int (1 : Int32)] s (none, s')) (hk : LKs s' (b :: K)) (hv : lvV b.1 ≠ nI l) : QV en (c + 2) 135 [.ref 65, .int (nI l), .int (1 : Int32)] s (none, s') := sd_lev hl (lev_no hl hc h hk hv)
/-- down to the lowest level -/
theorem dn_no : ∀ (l c : Nat), l < 5 → 1 ≤ c → QV en c 135 [.ref 65, .int (nI (l + 1)), .int (1 : Int32)] s (none, s') → LKs s' (b :: K) → (∀ i, i ≤ l → lvV b.1 ≠ nI i) → QV en (c + 2 * l + 1) 134 [.ref 65, .int (0 : Int32), .int (1 : Int32)] s (none, s') := by
  intro l
  induction l with
  | zero => intro c _ hc h hk hv; exact lev_no (by decide) hc h hk (hv 0 (Nat.le_refl _))
  | succ l ih =>
    intro c hl hc h hk hv
    exact (ih (c + 2) (by omega) (by omega) (up_no hl hc h hk (hv (l + 1) (Nat.le_refl _))) hk (fun i hi => hv i (by omega))).mo (by omega)
/-- an operand, a sign, an operand -/
theorem lev_op (hl : l < 5) (hc : 8 ≤ c) (h : QV en c 135 [.ref 65, .int (nI (l + 1)), .int (1 : Int32)] s (none, s1)) (hk : LKs s1 ((k, v) :: (k2, v2) :: b :: K)) (hR : RSb s1 th c1 M L NW C V CL H LD A O Q) (hv : lvV k = nI l) (hb : lvV b.1 ≠ nI l) (h1 : c1 < 400) (h2 : M2 < 400)
    (hr : ∀ s3, LKs s3 ((k2, v2) :: b :: K) → RSb s3 th (c1 + 1) M L NW C V CL H LD A O Q → ∃ s4, QV en c 135 [.ref 65, .int (nI (l + 1)), .int (1 : Int32)] s3 (none, s4) ∧ LKs s4 (b :: K) ∧ RSb s4 th c2 M2 L NW C V CL H LD A O2 Q2) :
    ∃ s5, QV en (c + 1) 134 [.ref 65, .int (nI l), .int (1 : Int32)] s (none, s5) ∧ LKs s5 (b :: K) ∧ RSb s5 th c2 (M2 + 1) L NW C V CL H LD A (upd O2 M2 (nI k)) (upd Q2 M2 0) := by
  obtain ⟨k1, -, k3⟩ := LKs_at hk
  obtain ⟨s2, e2, g2, r2⟩ := x_cntK (en := en) (d := 0) hR hk h1
  obtain ⟨s3, e3, g3, r3⟩ := x_advK (en := en) (d := 0) g2
  obtain ⟨s4, e4, g4, r4⟩ := hr s3 g3 (RSb_ad r2 r3)
  obtain ⟨s5, e5, g5, r5⟩ := x_putK (en := en) (d := 0) (x := nI k) (y := 0) r4 g4 h2
  refine ⟨s5, fun D hD => ?_, g5, r5⟩
  obtain ⟨D, rfl⟩ : ∃ z, D = z + 2 + 1 := ⟨D - 3, by omega⟩
  refine le_X6_readLevel en (D + 2) (nI l) 1 s _ ?_
  rw [show nI l + (1 : Int32) = nI (l + 1) from n_ar, h (D + 2) (by omega), bV_some]
  refine le_X6_readLevel_10 en (D + 2) (nI l) 1 0 s1 _ ?_
  have q2 := qev_up (D := D + 2) D 2 (by omega) e2
  have q3 := qev_up (D := D + 2) (D + 1) 1 (by omega) e3
  have q5 := qev_up (D := D + 2) D 2 (by omega) e5
  rw [if_neg (by decide), k1, x_levelOf (by omega), bI_some, if_neg (not_not_intro hv), q2, bI_some, if_pos (by decide), q3, bV_some, show nI l + (1 : Int32) = nI (l + 1) from n_ar, e4 (D + 2) (by omega), bV_some, r4.1.2.2, gd_true ⟨by decide, rfl⟩, nm_eq, k1, show ((8 : Nat) - 1) = 7 from rfl, q5, bV_some]
  by_cases q : nI l = (2 : Int32)
  · rw [if_neg (not_not_intro q)]
  · rw [if_pos q]
    refine le_X6_readLevel_10 en (D + 2) (nI l) 1 (0 + 1) s5 _ ?_
    obtain ⟨j1, -, j3⟩ := LKs_at g5
    rw [if_neg (by decide), j1, x_levelOf (by omega), bI_some, if_pos hb]
/-! what nodes are -/
theorem EXG_1 (hk : k ∈ opL) (ha : ar k = 0) (h3 : k ≠ 3) (hO : O a = nI k) (h2 : k = 2 → ∃ q, q < lc ∧ Q a = nI (16 + th * 6 + q)) (hw : 16 + th * 6 + lc ≤ 233) : EXG O Q th lc a (a + 1) := by
  have k31 := op_lt k hk
  refine ⟨by omega, ?_, fun j h1 h4 => ?_⟩
  · rw [show a + 1 - a = 0 + 1 from by omega]
    refine ⟨⟨k, hk, hO, by omega, fun z => ?_, fun z => absurd z h3⟩, trivial⟩
    obtain ⟨q, q1, q2⟩ := h2 z
    exact ⟨_, q2, by omega⟩
  · obtain rfl : j = a := by omega
    refine ⟨fun z => ?_, fun z => ?_⟩
    · rw [hO] at z
      exact h2 ((nI_eq (by omega) (by decide)).mp z)
    · rw [hO] at z
      exact h3 ((nI_eq (by omega) (by decide)).mp z)
theorem EXG_3 (hk : k ∈ opL) (ha : ar k = 2) (h3 : k ≠ 3 ∧ k ≠ 2) (hO0 : O a = nI 2) (hO1 : O (a + 1) = nI 1) (hO : O (a + 2) = nI k) (h2 : ∃ q, q < lc ∧ Q a = nI (16 + th * 6 + q)) (hw : 16 + th * 6 + lc ≤ 233) : EXG O Q th lc a (a + 3) := by
  have k31 := op_lt k hk
  refine ⟨by omega, ?_, fun j h1 h4 => ?_⟩
  · rw [show a + 3 - a = 0 + 1 + 1 + 1 from by omega]
    obtain ⟨q, q1, q2⟩ := h2
    have c0 : (O a).toNatClampNeg = 2 := by rw [hO0]; rfl
    have c1 : (O (a + 1)).toNatClampNeg = 1 := by rw [hO1]; rfl
    refine ⟨⟨2, by decide, hO0, by decide, fun _ => ⟨_, q2, by omega⟩, fun z => absurd z (by decide)⟩, ?_⟩
    rw [c0]
    refine ⟨⟨1, by decide, hO1, by decide, fun z => absurd z (by decide), fun z => absurd z (by decide)⟩, ?_⟩
    rw [c1]
    exact ⟨⟨k, hk, hO, by rw [ha]; decide, fun z => absurd z h3.2, fun z => absurd z h3.1⟩, trivial⟩
  · have : j = a ∨ j = a + 1 ∨ j = a + 2 := by omega
    rcases this with rfl | rfl | rfl
    · exact ⟨fun _ => h2, by rw [hO0]; decide⟩
    · exact ⟨fun z => absurd (hO1.symm.trans z) (by decide), by rw [hO1]; decide⟩
    · refine ⟨fun z => ?_, fun z => ?_⟩
      · rw [hO] at z
        exact absurd ((nI_eq (by omega) (by decide)).mp z) h3.2
      · rw [hO] at z
        exact absurd ((nI_eq (by omega) (by decide)).mp z) h3.1
theorem EXG_ag (h : EXG O Q th lc a e) (he : ∀ j, j < e → O2 j = O j ∧ Q2 j = Q j) : EXG O2 Q2 th lc a e := by
  refine ⟨h.1, dpk_cg9 _ _ _ (fun j h1 h2 => he j (by have := h.1; omega)) h.2.1, fun j h1 h2 => ?_⟩
  rw [(he j h2).1, (he j h2).2]
  exact h.2.2 j h1 h2
theorem EXG_lc {lc' : Nat} (h : EXG O Q th lc a e) (hl : lc ≤ lc') : EXG O Q th lc' a e := ⟨h.1, h.2.1, fun j h1 h2 => ⟨fun z => by
  obtain ⟨k, q1, q2⟩ := (h.2.2 j h1 h2).1 z
  exact ⟨k, by omega, q2⟩, (h.2.2 j h1 h2).2⟩⟩
theorem EXG_0 : EXG O Q th lc a a := ⟨Nat.le_refl _, by rw [Nat.sub_self]; trivial, fun j h1 h2 => absurd h2 (by omega)⟩
/-! the four forms -/
theorem lw_le (hw : LWc CL LD th lw) : lw.length ≤ 2 := by
  have w2 := hw.2.1
  simp only [List.mem_cons, List.not_mem_nil, or_false] at w2
  rcases w2 with rfl | rfl | rfl | rfl | rfl <;> decide
theorem x_expN (h : RSb s th c M L NW C V CL H LD A O Q) (hk : LKs s ((3, v) :: b :: K)) (hw : LWc CL LD th lw) (hc : c < 400) (hM : M < 400) (hb : lvV b.1 = -1) : XRes en th c M L NW C V CL H LD A O Q lw s (b :: K) := by
  obtain ⟨s', e, g, r⟩ := x_oneN (en := en) h hk hc hM
  refine ⟨s', c + 1, M + 1, CL, LD, lw, _, _, (dn_no 4 9 (by decide) (by decide) (sd_one e) g (fun i hi => ?_)).mo (by decide), g, r, hw, Nat.le_refl _, LWk.rf, fun j hj => ⟨if_neg (by omega), if_neg (by omega)⟩, by omega, by omega, by omega, EXG_1 (k := 1) (by decide) rfl (by decide) (if_pos rfl) (fun z => absurd z (by decide)) (by have := lw_le hw; have := h.2.2.2.2.1.2; omega)⟩
  exact m1_nI hb (by omega)
theorem x_expL (h : RSb s th c M L NW C V CL H LD A O Q) (hk : LKs s ((2, v) :: b :: K)) (hw : LWc CL LD th lw) (hv : v = 112 ∨ v = 113) (hN : NWc NW) (hc : c < 400) (hM : M < 400) (hb : lvV b.1 = -1) : XRes en th c M L NW C V CL H LD A O Q lw s (b :: K) := by
  obtain ⟨s', j, CL', LD', lw', e, g, r, w, j2, l2, p2⟩ := x_oneL (en := en) h hk hw hv hN hc hM
  refine ⟨s', c + 1, M + 1, CL', LD', lw', _, _, (dn_no 4 10 (by decide) (by decide) (sd_one e) g (fun i hi => ?_)).mo (by decide), g, r, w, l2, p2, fun j hj => ⟨if_neg (by omega), if_neg (by omega)⟩, by omega, by omega, by omega, EXG_1 (k := 2) (by decide) rfl (by decide) (if_pos rfl) (fun _ => ⟨j, j2, if_pos rfl⟩) (by have := lw_le w; have := h.2.2.2.2.1.2; omega)⟩
  exact m1_nI hb (by omega)
theorem x_expP (h : RSb s th c M L NW C V CL H LD A O Q) (hk : LKs s ((2, v) :: (k, 0) :: (3, v2) :: b :: K)) (hw : LWc CL LD th lw) (hv : v = 112 ∨ v = 113) (hN : NWc NW) (hc : c + 3 < 400) (hM : M + 3 < 400) (hb : lvV b.1 = -1) (hkk : k = 43 ∨ k = 60) : XRes en th c M L NW C V CL H LD A O Q lw s (b :: K) := by
  obtain ⟨s1, j, CL', LD', lw', e, g, r, w, j2, l2, p2⟩ := x_oneL (en := en) h hk hw hv hN (by omega) (by omega)
  have hbi : ∀ i, lvV b.1 ≠ nI i ∨ 2 ^ 31 ≤ i := fun i => by
    by_cases q : i < 2 ^ 31
    · left; exact m1_nI hb q
    · right; omega
  have hbj : ∀ i, i < 5 → lvV b.1 ≠ nI i := fun i hi => (hbi i).resolve_right (by omega)
  have fin : ∀ s', LKs s' (b :: K) → RSb s' th (c + 2 + 1) (M + 2 + 1) L NW C V CL' H LD' A (upd (upd (upd O M 2) (M + 1) 1) (M + 2) (nI k)) (upd (upd (upd Q M (nI (16 + th * 6 + j))) (M + 1) (nI v2)) (M + 2) 0) → QV en 40 134 [.ref 65, .int (0 : Int32), .int (1 : Int32)] s (none, s') → XRes en th c M L NW C V CL H LD A O Q lw s (b :: K) := by
    intro s' g' r' e'
    refine ⟨s', c + 2 + 1, M + 2 + 1, CL', LD', lw', _, _, e', g', r', w, l2, p2, fun j hj => ⟨?_, ?_⟩, by omega, by omega, by omega, ?_⟩
    · show upd (upd (upd O M 2) (M + 1) 1) (M + 2) (nI k) j = O j
      unfold upd
      rw [if_neg (by omega), if_neg (by omega), if_neg (by omega)]
    · show upd (upd (upd Q M _) (M + 1) _) (M + 2) 0 j = Q j
      unfold upd
      rw [if_neg (by omega), if_neg (by omega), if_neg (by omega)]
    · refine EXG_3 (k := k) (by rcases hkk with rfl | rfl <;> decide) (by rcases hkk with rfl | rfl <;> decide) (by omega) ?_ ?_ ?_ ⟨j, j2, ?_⟩ (by have := lw_le w; have := h.2.2.2.2.1.2; omega)
      · unfold upd
        rw [if_neg (by omega), if_neg (by omega), if_pos rfl]; rfl
      · unfold upd
        rw [if_neg (by omega), if_pos rfl]; rfl
      · unfold upd
        rw [if_pos rfl]
      · unfold upd
        rw [if_neg (by omega), if_neg (by omega), if_pos rfl]
  rcases hkk with rfl | rfl
  · have e4 := up_no (l := 4) (by decide) (by decide) (sd_one e) g (by decide)
    obtain ⟨s5, e5, g5, r5⟩ := lev_op (l := 3) (c2 := c + 2 + 1) (M2 := M + 2) (O2 := upd (upd O M 2) (M + 1) 1) (Q2 := upd (upd Q M (nI (16 + th * 6 + j))) (M + 1) (nI v2)) (by decide) (by decide) e4 g r (by decide) (hbj 3 (by decide)) (by omega) (by omega) (fun s3 g3 r3 => by
      obtain ⟨s4, f, g4, r4⟩ := x_oneN (en := en) r3 g3 (by omega) (by omega)
      exact ⟨s4, (up_no (l := 4) (by decide) (by decide) (sd_one f) g4 (hbj 4 (by decide))).mo (by decide), g4, r4⟩)
    exact fin s5 g5 r5 ((dn_no 2 _ (by decide) (by decide) (sd_lev (by decide) e5) g5 (fun i hi => hbj i (by omega))).mo (by decide))
  · have e4 := up_no (l := 3) (by decide) (by decide) (up_no (l := 4) (by decide) (by decide) (sd_one e) g (by decide)) g (by decide)
    obtain ⟨s5, e5, g5, r5⟩ := lev_op (l := 2) (c2 := c + 2 + 1) (M2 := M + 2) (O2 := upd (upd O M 2) (M + 1) 1) (Q2 := upd (upd Q M (nI (16 + th * 6 + j))) (M + 1) (nI v2)) (by decide) (by decide) e4 g r (by decide) (hbj 2 (by decide)) (by omega) (by omega) (fun s3 g3 r3 => by
      obtain ⟨s4, f, g4, r4⟩ := x_oneN (en := en) r3 g3 (by omega) (by omega)
      exact ⟨s4, (up_no (l := 3) (by decide) (by decide) (up_no (l := 4) (by decide) (by decide) (sd_one f) g4 (hbj 4 (by decide))) g4 (hbj 3 (by decide))).mo (by decide), g4, r4⟩)
    exact fin s5 g5 r5 ((dn_no 1 _ (by decide) (by decide) (sd_lev (by decide) e5) g5 (fun i hi => hbj i (by omega))).mo (by decide))
end EXQ
