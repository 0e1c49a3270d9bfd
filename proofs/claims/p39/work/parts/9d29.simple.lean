/-! THE READER, the class's own: simple statements. -/
/-- line i is good, of kind k -/
abbrev LNg (A : Nat → fI) (O Q : fI) (th lc M i k : Nat) : Prop := A 0 i = nI k ∧ (k < 19 ∧ okK k) ∧ (1 ≤ k → k ≤ 4 → ∃ o, o < 3 ∧ A 2 i = nI o) ∧ (5 ≤ k → k ≤ 9 → ∃ o, o < 2 ∧ A 2 i = nI o) ∧ ((A 3 i = -2 ∧ k ≠ 1) ∨ ∃ j, j < lc ∧ A 3 i = nI j) ∧ (∃ a e, A 5 i = nI a ∧ A 6 i = nI e ∧ e ≤ M ∧ EXG O Q th lc a e) ∧ ∃ a e, A 7 i = nI a ∧ A 8 i = nI e ∧ e ≤ M ∧ EXG O Q th lc a e
/-- a line that has just come to be -/
abbrev NWL (A : Nat → fI) (N : Nat) : Prop := A 3 N = -2 ∧ A 7 N = 0 ∧ A 8 N = 0
/-- a simple statement is read into line N -/
abbrev SRes (en : pN) (th c M L : Nat) (NW : Nat → Nat) (C V CL H : fI) (LD : Nat → Int64) (A : Nat → fI) (O Q : fI) (lw : List Nat) (N : Nat) (dp : Int32) (s : qS) (K : List (Nat × Nat)) (k : Nat) : Prop :=
  ∃ (s' : qS) (c' M' : Nat) (CL' : fI) (LD' : Nat → Int64) (lw' : List Nat) (A' : Nat → fI) (O' Q' : fI), QV en 60 124 [.ref 65, .int (nI N), .int dp] s (none, s') ∧ LKs s' K ∧ RSb s' th c' M' L NW C V CL' H LD' A' O' Q' ∧ XF th c M c' M' CL CL' LD LD' O Q O' Q' lw lw' ∧ (∀ f i, (i ≠ N ∨ f = 1 ∨ f = 4 ∨ 9 ≤ f) → A' f i = A f i) ∧ LNg A' O' Q' th lw'.length M' N k
section SIS
variable {en : pN} {d th c M L N k v v1 v2 v3 v4 o q j z : Nat} {NW : Nat → Nat} {C V CL H : fI} {LD : Nat → Int64} {A : Nat → fI} {O Q : fI} {s s' s1 : qS} {K E : List (Nat × Nat)} {b : Nat × Nat} {lw : List Nat} {x dp w : Int32}
theorem up2_m {f i g y : Nat} (h : g ≠ f) : up2 A f i x g y = A g y := up2_n (Or.inl h)
theorem st_name (hk : LKs s ((2, v) :: K)) (h : QV en 5 126 [.ref 65, .int (nI N)] s (some (.int (nI k)), s1)) (h7 : T47 en N dp k s1 s') : QV en 60 124 [.ref 65, .int (nI N), .int dp] s (none, s') := fun D hD => by
  obtain ⟨D, rfl⟩ : ∃ z, D = z + 1 := ⟨D - 1, by omega⟩
  refine le_X6_readStatement en _ _ _ _ _ ?_
  rw [(LKs_at hk).1, if_neg (show ¬ ¬ nI 2 = (2 : Int32) from not_not_intro rfl), h D (by omega), bI_some]
  exact h7 D (by omega)
theorem st_word {s2 : qS} (hk : LKs s ((z, v) :: b :: K)) (h2 : z ≠ 2) (hz : nI z - 300 + 3 = nI k) (ha : qev en 1 167 [.ref 1] s = some (none, s1)) (h : QV en 5 129 [.ref 65, .int (nI N), .int (nI k)] s1 (none, s2)) (h7 : T47 en N dp k s2 s') : QV en 60 124 [.ref 65, .int (nI N), .int dp] s (none, s') := fun D hD => by
  obtain ⟨D, rfl⟩ : ∃ z, D = z + 1 := ⟨D - 1, by omega⟩
  have k4 := (LKs_at hk).2.2
  refine le_X6_readStatement en _ _ _ _ _ ?_
  rw [(LKs_at hk).1, if_pos (by rw [n_eq (by decide) (by omega)]; exact h2), nm_eq, hz, qev_up (D := D) (D - 1) 1 (by omega) ha, bV_some, h D (by omega), bV_some]
  exact h7 D (by omega)
/-- c = E; -/
theorem x_STORE (h : RSb s th c M L NW C V CL H LD A O Q) (hk : LKs s ((2, v) :: (61, 0) :: E)) (hE : E ≠ []) (hx : EXP en th c M L NW C V CL H LD O Q lw E ((59, v1) :: b :: K)) (hn : NWc NW) (ho : ceW o v) (hN : N < 100) (hA : NWL A N) (ht : th < 4) : SRes en th c M L NW C V CL H LD A O Q lw N dp s (b :: K) 2 := by
  obtain ⟨e0, E, rfl⟩ : ∃ e0 F, E = e0 :: F := List.exists_cons_of_ne_nil hE
  obtain ⟨s1, e1, g1, r1⟩ := x_tgC (en := en) (N := N) h hk hn ho hN
  obtain ⟨s2, c', M', CL', LD', lw', O', Q', e2, g2, r2, x2, y2⟩ := tl_E (N := N) (dp := dp) (k := 2) r1 g1 hx hN (by decide)
  have o3 : o < 3 := by rcases ho with ⟨rfl, -⟩ | ⟨rfl, -⟩ | ⟨rfl, -⟩ <;> decide
  refine ⟨s2, c', M', CL', LD', lw', _, O', Q', st_name hk (e1.mo (by decide)) e2, g2, r2, x2, fun f i hf => ?_, ?_⟩
  · rw [up2_n (by omega), up2_n (by omega), up2_n (by omega), up2_n (by omega)]
  · unfold LNg
    simp (disch := decide) only [up2_a, up2_m]
    exact ⟨trivial, ⟨by decide, by decide⟩, fun _ _ => ⟨o, o3, rfl⟩, fun z => absurd z (by decide), Or.inl ⟨hA.1, by decide⟩, ⟨M, M', rfl, rfl, Nat.le_refl _, y2⟩, ⟨0, 0, hA.2.1, hA.2.2, Nat.zero_le _, EXG_0⟩⟩
/-- l = c; -/
theorem x_LOAD (h : RSb s th c M L NW C V CL H LD A O Q) (hk : LKs s ((2, v) :: (61, 0) :: (2, v2) :: (59, v1) :: b :: K)) (hw : LWc CL LD th lw) (hn : NWc NW) (hv : v = 112 ∨ v = 113) (ho : ceW o v2) (hN : N < 100) (hA : NWL A N) : SRes en th c M L NW C V CL H LD A O Q lw N dp s (b :: K) 1 := by
  obtain ⟨s1, j, CL', LD', lw', e1, g1, r1, j1, x1⟩ := x_tgL (en := en) (N := N) h hk hw hn hv ho hN
  obtain ⟨s2, e2, g2, r2⟩ := tl_0 (en := en) (N := N) (dp := dp) (k := 1) r1 g1 hN (by decide)
  have o3 : o < 3 := by rcases ho with ⟨rfl, -⟩ | ⟨rfl, -⟩ | ⟨rfl, -⟩ <;> decide
  refine ⟨s2, c, M, CL', LD', lw', _, O, Q, st_name hk e1 e2, g2, r2, x1, fun f i hf => ?_, ?_⟩
  · rw [up2_n (by omega), up2_n (by omega), up2_n (by omega), up2_n (by omega), up2_n (by omega)]
  · unfold LNg
    simp (disch := decide) only [up2_a, up2_m]
    exact ⟨trivial, ⟨by decide, by decide⟩, fun _ _ => ⟨o, o3, rfl⟩, fun z => absurd z (by decide), Or.inr ⟨j, j1, rfl⟩, ⟨M, M, rfl, rfl, Nat.le_refl _, EXG_0⟩, ⟨0, 0, hA.2.1, hA.2.2, Nat.zero_le _, EXG_0⟩⟩
/-- l = E; -/
theorem x_SET (h : RSb s th c M L NW C V CL H LD A O Q) (hk : LKs s ((2, v) :: (61, 0) :: (q, v2) :: E)) (h2 : q ≠ 2 ∨ (q = 2 ∧ (v2 = 112 ∨ v2 = 113))) (hx : ∀ CL LD lw, LWc CL LD th lw → EXP en th c M L NW C V CL H LD O Q lw ((q, v2) :: E) ((59, v1) :: b :: K)) (hw : LWc CL LD th lw) (hn : NWc NW) (hv : v = 112 ∨ v = 113) (hN : N < 100) (hA : NWL A N) : SRes en th c M L NW C V CL H LD A O Q lw N dp s (b :: K) 0 := by
  obtain ⟨s1, j, CL', LD', lw', e1, g1, r1, j1, x1⟩ := x_tgS (en := en) (N := N) h hk hw hn hv h2 hN
  obtain ⟨s2, c', M', CL2, LD2, lw2, O', Q', e2, g2, r2, x2, y2⟩ := tl_E (N := N) (dp := dp) (k := 0) r1 g1 (hx _ _ _ x1.1) hN (by decide)
  refine ⟨s2, c', M', CL2, LD2, lw2, _, O', Q', st_name hk e1 e2, g2, r2, XF.tr (c' := c) (M' := M) x1 ⟨x2.1, x2.2.1, x2.2.2.1, x2.2.2.2.1, x2.2.2.2.2.1⟩ x2.2.2.2.2.2.1 x2.2.2.2.2.2.2, fun f i hf => ?_, ?_⟩
  · rw [up2_n (by omega), up2_n (by omega), up2_n (by omega), up2_n (by omega)]
  · unfold LNg
    simp (disch := decide) only [up2_a, up2_m]
    exact ⟨trivial, ⟨by decide, by decide⟩, fun z => absurd z (by decide), fun z => absurd z (by decide), Or.inr ⟨j, Nat.lt_of_lt_of_le j1 x2.2.1, rfl⟩, ⟨M, M', rfl, rfl, Nat.le_refl _, y2⟩, ⟨0, 0, hA.2.1, hA.2.2, Nat.zero_le _, EXG_0⟩⟩
/-- lock l; unlock l; -/
theorem x_LOCK (h : RSb s th c M L NW C V CL H LD A O Q) (hk : LKs s ((z, v4) :: (2, v) :: (59, v1) :: b :: K)) (hw : LWc CL LD th lw) (hn : NWc NW) (ho : lkW o v) (hz : (z = 302 ∧ k = 5) ∨ (z = 303 ∧ k = 6)) (hN : N < 100) (hA : NWL A N) : SRes en th c M L NW C V CL H LD A O Q lw N dp s (b :: K) k := by
  obtain ⟨s0, e0, g0, f0⟩ := x_advK (en := en) (d := 0) hk
  obtain ⟨s1, e1, g1, r1⟩ := x_obL (en := en) (N := N) (k := k) (RSb_ad h f0) g0 hn ho hN (by omega)
  obtain ⟨s2, e2, g2, r2⟩ := tl_0 (en := en) (N := N) (dp := dp) (k := k) r1 g1 hN (by omega)
  have o3 : o < 2 := by rcases ho with ⟨rfl, -⟩ | ⟨rfl, -⟩ <;> decide
  refine ⟨s2, c, M, CL, LD, lw, _, O, Q, st_word hk (by omega) (by rcases hz with ⟨rfl, rfl⟩ | ⟨rfl, rfl⟩ <;> decide) e0 e1 e2, g2, r2, XF.rf hw, fun f i hf => ?_, ?_⟩
  · rw [up2_n (by omega), up2_n (by omega), up2_n (by omega), up2_n (by omega)]
  · unfold LNg
    simp (disch := decide) only [up2_a, up2_m]
    exact ⟨trivial, ⟨by omega, by omega⟩, fun _ y => absurd y (by omega), fun _ _ => ⟨o, o3, rfl⟩, Or.inl ⟨hA.1, by omega⟩, ⟨M, M, rfl, rfl, Nat.le_refl _, EXG_0⟩, ⟨0, 0, hA.2.1, hA.2.2, Nat.zero_le _, EXG_0⟩⟩
/-- fence; -/
theorem x_FENCE (h : RSb s th c M L NW C V CL H LD A O Q) (hk : LKs s ((309, v4) :: (59, v1) :: b :: K)) (hw : LWc CL LD th lw) (hn : NWc NW) (hN : N < 100) (hA : NWL A N) : SRes en th c M L NW C V CL H LD A O Q lw N dp s (b :: K) 12 := by
  obtain ⟨s0, e0, g0, f0⟩ := x_advK (en := en) (d := 0) hk
  have e1 := x_obN (en := en) (N := N) (k := 12) g0 (RSb_ad h f0) hn (Or.inl (by decide)) (by decide)
  obtain ⟨s2, e2, g2, r2⟩ := tl_0 (en := en) (N := N) (dp := dp) (k := 12) (RSb_ad h f0) g0 hN (by decide)
  refine ⟨s2, c, M, CL, LD, lw, _, O, Q, st_word hk (by decide) (by decide) e0 e1 e2, g2, r2, XF.rf hw, fun f i hf => ?_, ?_⟩
  · rw [up2_n (by omega), up2_n (by omega), up2_n (by omega)]
  · unfold LNg
    simp (disch := decide) only [up2_a, up2_m]
    exact ⟨trivial, ⟨by decide, by decide⟩, fun _ y => absurd y (by decide), fun _ y => absurd y (by decide), Or.inl ⟨hA.1, by decide⟩, ⟨M, M, rfl, rfl, Nat.le_refl _, EXG_0⟩, ⟨0, 0, hA.2.1, hA.2.2, Nat.zero_le _, EXG_0⟩⟩
/-- assert E; -/
theorem x_ASSERT (h : RSb s th c M L NW C V CL H LD A O Q) (hk : LKs s ((311, v4) :: (2, v) :: E)) (hv : v = 112 ∨ v = 113) (hx : EXP en th c M L NW C V CL H LD O Q lw ((2, v) :: E) ((59, v1) :: b :: K)) (hn : NWc NW) (hN : N < 100) (hA : NWL A N) : SRes en th c M L NW C V CL H LD A O Q lw N dp s (b :: K) 14 := by
  obtain ⟨s0, e0, g0, f0⟩ := x_advK (en := en) (d := 0) hk
  have e1 := x_obN (en := en) (N := N) (k := 14) g0 (RSb_ad h f0) hn (Or.inr ⟨rfl, hv⟩) (by decide)
  obtain ⟨s2, c', M', CL', LD', lw', O', Q', e2, g2, r2, x2, y2⟩ := tl_E (N := N) (dp := dp) (k := 14) (RSb_ad h f0) g0 hx hN (by decide)
  refine ⟨s2, c', M', CL', LD', lw', _, O', Q', st_word hk (by decide) (by decide) e0 e1 e2, g2, r2, x2, fun f i hf => ?_, ?_⟩
  · rw [up2_n (by omega), up2_n (by omega), up2_n (by omega)]
  · unfold LNg
    simp (disch := decide) only [up2_a, up2_m]
    exact ⟨trivial, ⟨by decide, by decide⟩, fun _ y => absurd y (by decide), fun _ y => absurd y (by decide), Or.inl ⟨hA.1, by decide⟩, ⟨M, M', rfl, rfl, Nat.le_refl _, y2⟩, ⟨0, 0, hA.2.1, hA.2.2, Nat.zero_le _, EXG_0⟩⟩
/-- add c, n into l; -/
theorem x_ADD (h : RSb s th c M L NW C V CL H LD A O Q) (hk : LKs s ((301, v4) :: (2, v) :: (44, 0) :: (3, v3) :: (321, v2) :: (2, q) :: (59, 0) :: b :: K)) (hw : LWc CL LD th lw) (hv : q = 112 ∨ q = 113) (ho : ceW o v) (hn : NWc NW) (hN : N < 100) (hA : NWL A N) (hc : c < 400) (hM : M < 400) : SRes en th c M L NW C V CL H LD A O Q lw N dp s (b :: K) 4 := by
  obtain ⟨s0, e0, g0, f0⟩ := x_advK (en := en) (d := 0) hk
  obtain ⟨s1, e1, g1, r1⟩ := x_obC (en := en) (N := N) (k := 4) (RSb_ad h f0) g0 hn ho hN (by decide)
  obtain ⟨s2, c', M', j, CL', LD', lw', O', Q', e2, g2, r2, x2, y2, j2⟩ := tl_add (en := en) (lw := lw) (N := N) (dp := dp) r1 g1 (fun s1 A1 r g => x_expN r g hw hc hM rfl) hN hn hv
  have o3 : o < 3 := by rcases ho with ⟨rfl, -⟩ | ⟨rfl, -⟩ | ⟨rfl, -⟩ <;> decide
  refine ⟨s2, c', M', CL', LD', lw', _, O', Q', st_word hk (by decide) (by decide) e0 e1 e2, g2, r2, x2, fun f i hf => ?_, ?_⟩
  · rw [up2_n (by omega), up2_n (by omega), up2_n (by omega), up2_n (by omega), up2_n (by omega)]
  · unfold LNg
    simp (disch := decide) only [up2_a, up2_m]
    exact ⟨trivial, ⟨by decide, by decide⟩, fun _ _ => ⟨o, o3, rfl⟩, fun y => absurd y (by decide), Or.inr ⟨j, j2, rfl⟩, ⟨M, M', rfl, rfl, Nat.le_refl _, y2⟩, ⟨0, 0, hA.2.1, hA.2.2, Nat.zero_le _, EXG_0⟩⟩
/-- cas c, n, n into l; -/
theorem x_CAS (h : RSb s th c M L NW C V CL H LD A O Q) (hk : LKs s ((300, v4) :: (2, v) :: (44, 0) :: (3, v3) :: (44, 0) :: (3, v1) :: (321, v2) :: (2, q) :: (59, 0) :: b :: K)) (hw : LWc CL LD th lw) (hv : q = 112 ∨ q = 113) (ho : ceW o v) (hn : NWc NW) (hN : N < 100) (hc : c + 9 < 400) (hM : M + 9 < 400) : SRes en th c M L NW C V CL H LD A O Q lw N dp s (b :: K) 3 := by
  obtain ⟨s0, e0, g0, f0⟩ := x_advK (en := en) (d := 0) hk
  obtain ⟨s1, e1, g1, r1⟩ := x_obC (en := en) (N := N) (k := 3) (RSb_ad h f0) g0 hn ho hN (by decide)
  obtain ⟨s2, c', M1, M', j, CL', LD', lw', O', Q', e2, g2, r2, x2, y2, m2, y3, j2⟩ := tl_cas (en := en) (lw := lw) (N := N) (dp := dp) r1 g1 hw hN hn hv hc hM
  have o3 : o < 3 := by rcases ho with ⟨rfl, -⟩ | ⟨rfl, -⟩ | ⟨rfl, -⟩ <;> decide
  refine ⟨s2, c', M', CL', LD', lw', _, O', Q', st_word hk (by decide) (by decide) e0 e1 e2, g2, r2, x2, fun f i hf => ?_, ?_⟩
  · rw [up2_n (by omega), up2_n (by omega), up2_n (by omega), up2_n (by omega), up2_n (by omega), up2_n (by omega), up2_n (by omega)]
  · unfold LNg
    simp (disch := decide) only [up2_a, up2_m]
    exact ⟨trivial, ⟨by decide, by decide⟩, fun _ _ => ⟨o, o3, rfl⟩, fun y => absurd y (by decide), Or.inr ⟨j, j2, rfl⟩, ⟨M, M1, rfl, rfl, m2, y2⟩, ⟨M1, M', rfl, rfl, Nat.le_refl _, y3⟩⟩
end SIS
