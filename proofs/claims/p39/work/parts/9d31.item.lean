/-! THE READER, the class's own: one simple statement in a block. -/
abbrev RSs (s : qS) (th c M L : Nat) (NW : Nat → Nat) (C V : fI) : Prop := RSb s th c M L NW C V (s.1 14) (s.1 16) (s.2.1 13) (fun f => s.1 (18 + f)) (s.1 8) (s.1 9)
abbrev LNs (s : qS) (th lc M i k : Nat) : Prop := LNg (fun f => s.1 (18 + f)) (s.1 8) (s.1 9) th lc M i k
/-- what is read so far -/
abbrev RB (s : qS) (K : List (Nat × Nat)) (th c M L nt : Nat) (NW : Nat → Nat) (C V : fI) (lw : List Nat) (bl : Nat → List Nat) (Km tm : Nat → Nat) : Prop :=
  RSs s th c M L NW C V ∧ LKs s K ∧ LWc (s.1 14) (s.2.1 13) th lw ∧ TRs s nt L bl Km tm ∧ ∀ i, i < L → ∃ k, LNs s (tm i) (clp (s.1 14 (tm i))) M i k
/-- how many lines of thread t touch cells -/
def tcS (s : qS) (L t : Nat) : Nat := smN (fun i => if s.1 19 i = nI t ∧ (1 ≤ clp (s.1 18 i) ∧ clp (s.1 18 i) ≤ 4) then 1 else 0) L
/-- what may begin a statement -/
abbrev mayT (k v : Nat) : Prop := (k = 2 ∧ ((∃ o, ceW o v) ∨ v = 112 ∨ v = 113)) ∨ (300 ≤ k ∧ k ≤ 315)
section ITM
variable {en : pN} {d th c M L N k v i j nt key lc lc' M' a v5 t o : Nat} {NW : Nat → Nat} {C V CL CL' H : fI} {LD LD' : Nat → Int64} {A A' : Nat → fI} {O Q O' Q' : fI} {s s' s1 s2 : qS} {K K' : List (Nat × Nat)} {lw : List Nat} {x z u pa pt lv v1 : Int32} {bl : Nat → List Nat} {Km tm : Nat → Nat} {lo : Option Nat} {f g : Nat → Nat}
theorem RSb.can (h : RSb s th c M L NW C V CL H LD A O Q) : RSs s th c M L NW C V := by
  obtain ⟨a, b, m, l, t, n, cc, vv, ch, ld, aa, nd⟩ := h
  exact ⟨a, b, m, l, t, n, cc, vv, fun _ _ => ⟨rfl, rfl⟩, fun _ _ => rfl, fun _ _ _ _ => rfl, fun _ _ => ⟨rfl, rfl⟩⟩
theorem RSb_pt1 (h : RSb s th c M L NW C V CL H LD A O Q) : RSs (pt1 s lo key z) th c M L NW C V := by
  unfold pt1 lkA
  cases lo with
  | some l => exact (RSb_at (f := 10) (i := l) (x := z) h (by decide)).can
  | none =>
    dsimp only
    split
    · exact (RSb_hd (i := key) (x := z) h).can
    · split
      · exact (RSb_at (f := 13) (i := (key - 4) / 2) (x := z) h (by decide)).can
      · exact (RSb_at (f := 14) (i := (key - 4) / 2) (x := z) h (by decide)).can
theorem LNg_cg (h : LNg A O Q th lc M i k) (hA : ∀ f, f = 0 ∨ f = 2 ∨ f = 3 ∨ (5 ≤ f ∧ f ≤ 8) → A' f i = A f i) (hO : ∀ j, j < M → O' j = O j ∧ Q' j = Q j) (hM : M ≤ M') (hl : lc ≤ lc') : LNg A' O' Q' th lc' M' i k := by
  unfold LNg
  rw [hA 0 (by decide), hA 2 (by decide), hA 3 (by decide), hA 5 (by decide), hA 6 (by decide), hA 7 (by decide), hA 8 (by decide)]
  obtain ⟨a1, a2, a3, a4, a5, ⟨a, e, b1, b2, b3, b4⟩, ⟨a', e', c1, c2, c3, c4⟩⟩ := h
  refine ⟨a1, a2, a3, a4, ?_, ⟨a, e, b1, b2, Nat.le_trans b3 hM, EXG_lc (EXG_ag b4 (fun j hj => hO j (by omega))) hl⟩, ⟨a', e', c1, c2, Nat.le_trans c3 hM, EXG_lc (EXG_ag c4 (fun j hj => hO j (by omega))) hl⟩⟩
  rcases a5 with a5 | ⟨j, j1, j2⟩
  · exact Or.inl a5
  · exact Or.inr ⟨j, by omega, j2⟩
theorem LWc_cg (h : LWc CL LD th lw) (h4 : th < 4) (h1 : CL' th = CL th) (h2 : ∀ j, j < 24 → LD' j = LD j) : LWc CL' LD' th lw := by
  have hl := lw_le h
  exact ⟨h1.trans h.1, h.2.1, fun j hj => (h2 _ (by omega)).trans (h.2.2 j hj)⟩
/-- one line more, of kind k -/
theorem tcS_add (h : ∀ i, i < L → s'.1 18 i = s.1 18 i ∧ s'.1 19 i = s.1 19 i) (h18 : s'.1 18 L = nI k) (h19 : s'.1 19 L = nI th) (hk : k < 19) (hth : th < 4) (ht : t < 4) : tcS s' (L + 1) t = tcS s L t + if t = th ∧ 1 ≤ k ∧ k ≤ 4 then 1 else 0 := by
  unfold tcS
  show smN _ L + _ = _
  rw [smN_cg (g := fun i => if s.1 19 i = nI t ∧ (1 ≤ clp (s.1 18 i) ∧ clp (s.1 18 i) ≤ 4) then 1 else 0) (n := L) (fun i hi => by
    show (if s'.1 19 i = nI t ∧ (1 ≤ clp (s'.1 18 i) ∧ clp (s'.1 18 i) ≤ 4) then 1 else 0) = _
    rw [(h i hi).1, (h i hi).2])]
  congr 1
  show (if s'.1 19 L = nI t ∧ (1 ≤ clp (s'.1 18 L) ∧ clp (s'.1 18 L) ≤ 4) then 1 else 0) = _
  rw [h18, h19, n_clp (by omega)]
  by_cases q : t = th
  · subst q
    by_cases q2 : 1 ≤ k ∧ k ≤ 4
    · rw [if_pos ⟨rfl, q2⟩, if_pos ⟨rfl, q2⟩]
    · rw [if_neg (fun z => q2 z.2), if_neg (fun z => q2 z.2)]
  · rw [if_neg (fun z => q ((nI_eq (by omega) (by omega)).mp z.1).symm), if_neg (fun z => q z.1)]
theorem x_may (h : RSb s th c M L NW C V CL H LD A O Q) (hn : NWc NW) (hk : LKs s ((k, v) :: K)) (hm : mayT k v) (hL : L < 100) : ∀ D, 3 ≤ D → qev en D 123 [.ref 65] s = some (some (.int 1), s) := fun D hD => by
  obtain ⟨D, rfl⟩ : ∃ z, D = z + 2 := ⟨D - 2, by omega⟩
  obtain ⟨k1, k2, k3⟩ := LKs_at hk
  have h117 : L_X6_mayBegin_117 en (D + 1) s = some (some (.int 1), s) := by
    refine le_X6_mayBegin_117 en _ _ _ ?_
    rw [if_neg (by rw [k1, n_eq (by decide) (by omega)]; unfold mayT at hm; omega)]
  have h78 : ∀ w : Int32, w < 8 → L_X6_mayBegin_78 en (D + 1) w s = some (some (.int 1), s) := fun w hw => by
    have hw2 : w < 12 := Int32.lt_trans hw (by decide)
    refine le_X6_mayBegin_78 en _ _ _ _ ?_
    rw [x_isLock, if_pos hw, bI_some, if_neg (by decide), x_isThread, if_pos hw2, bI_some, if_pos rfl, h.2.2.2.1.1, if_pos (by rw [n_gt (by decide) (by omega)]; exact hL)]
    exact h117
  refine le_X6_mayBegin en _ _ _ ?_
  rcases hm with ⟨rfl, hv⟩ | ⟨ha, hb⟩
  · have e84 : ∃ w : Int32, w < 8 ∧ qev en (D + 1) 84 [.ref 11, .long (Int64.ofNat v)] s = some (some (.int w), s) := by
      rcases hv with ⟨o, ho⟩ | hv
      · refine ⟨nI o, ?_, (x_namedK (d := D) h hn).2 o (by omega)⟩
        rw [n_gt (by decide) (by omega)]
        omega
      · exact ⟨-1, by decide, (x_namedK (d := D) h hn).1 hv⟩
    obtain ⟨w, hw, e84⟩ := e84
    rw [k1, if_neg (show ¬ ¬ nI 2 = (2 : Int32) from not_not_intro rfl)]
    refine le_X6_mayBegin_16 en _ _ _ _ ?_
    rw [if_neg (by decide), k2, e84, bI_some]
    refine le_X6_mayBegin_39 en _ _ _ _ _ ?_
    rw [if_pos (by decide)]
    exact h78 w hw
  · rw [k1, if_pos (by rw [n_eq (by decide) (by omega)]; omega)]
    refine le_X6_mayBegin_16 en _ _ _ _ ?_
    rw [if_pos rfl]
    refine le_X6_mayBegin_39 en _ _ _ _ _ ?_
    rw [if_neg (by decide), k1, if_neg (by rw [n_gt (by decide) (by omega)]; omega), if_pos (by rw [n_ge (by decide) (by omega)]; exact hb)]
    exact h78 (-1) (by decide)
/-- a new line in its block -/
theorem x_newL (h : RB s K th c M L nt NW C V lw bl Km tm) (hth : th < nt) (hnt : nt ≤ 4) (hL : L < 100) (hk : keyB tm th L key pa pt) (h17 : ∀ p, key = 5 + 2 * p → s.1 18 p = 17) : ∃ s2, qev en 1 99 [.ref 11, .int (nI th), .int pa, .int pt, .int lv] s = some (some (.int (nI L)), naS s L (nI th) pa pt lv) ∧ qev en 1 100 [.ref 11, .int (lstX (bl key) (-1)), .int (nI L)] (naS s L (nI th) pa pt lv) = some (none, s2) ∧ RSs s2 th c M (L + 1) NW C V ∧ LKs s2 K ∧ LWc (s2.1 14) (s2.2.1 13) th lw ∧ TRs s2 nt (L + 1) (at1 bl key (bl key ++ [L])) (at1 Km L key) (at1 tm L th) ∧ NWL (fun f => s2.1 (18 + f)) L ∧ (∀ a, (a ≠ 11 ∧ a < 16) ∨ a = 17 ∨ 35 < a → s2.1 a = s.1 a) ∧ (∀ a, 18 ≤ a → a < 28 → ∀ i, i < L → s2.1 a i = s.1 a i) ∧ s2.2 = s.2 := by
  obtain ⟨hR, hK, hW, hT, hN⟩ := h
  have lo_lt : ∀ l, (bl key).getLast? = some l → lstX (bl key) (-1) = nI l ∧ l < 100 := fun l hl => by
    refine ⟨?_, by have := (hT.2.1 key l (List.mem_of_getLast? hl)).1; omega⟩
    unfold lstX
    rw [hl]
  have e1 := x_addLine (en := en) (d := 0) (N := L) (u := nI th) (pa := pa) (pt := pt) (lv := lv) hL hR.2.2.2.1.1
  have e2 := x_link (en := en) (d := 0) (N := L) (key := key) (s := naS s L (nI th) pa pt lv) (lo := (bl key).getLast?) (la := lstX (bl key) (-1)) hL lo_lt (fun hl => by
    unfold lstX
    rw [hl]) (by
    rw [naS_N (by decide), naS_N (by decide), naS_N (by decide)]
    rcases hk with ⟨a1, a2⟩ | ⟨p, b, p1, b1, a1, a2, a3, a4⟩
    · exact Or.inl ⟨by omega, a2, by rw [a1]; rfl⟩
    · exact Or.inr ⟨p, b, by omega, b1, a1, a2, a3⟩)
  refine ⟨_, e1, e2, RSb_pt1 (RSb_line hR hL), ?_, ?_, TRs_add hT hth hnt hL hk h17, ?_, fun a ha => ?_, fun a ha hb i hi => ?_, rfl⟩
  · have hr := lkA_r (q16 := 16) (q28 := 28) (q31 := 31) (q32 := 32) (key := key) (lo := (bl key).getLast?)
    exact LKs_uI (LKs_line hK) (by omega) (by omega) (by omega)
  · have : (pt1 (naS s L (nI th) pa pt lv) (bl key).getLast? key (nI L)).1 14 th = s.1 14 th := by
      rw [pt1_o (by decide) (by decide) (by decide) (by decide), naS_r (by omega) (by omega)]
    exact LWc_cg hW (by omega) this (fun _ _ => rfl)
  · show (pt1 (naS s L (nI th) pa pt lv) _ _ _).1 21 L = _ ∧ (pt1 (naS s L (nI th) pa pt lv) _ _ _).1 25 L = _ ∧ (pt1 (naS s L (nI th) pa pt lv) _ _ _).1 26 L = _
    rw [pt1_o (by decide) (by decide) (by decide) (by decide), pt1_o (by decide) (by decide) (by decide) (by decide), pt1_o (by decide) (by decide) (by decide) (by decide), naS_N (by decide), naS_N (by decide), naS_N (by decide)]
    exact ⟨rfl, rfl, rfl⟩
  · show (pt1 (naS s L (nI th) pa pt lv) _ _ _).1 a = _
    rw [pt1_o (by omega) (by omega) (by omega) (by omega)]
    funext j
    exact naS_r (by omega) (by omega)
  · show (pt1 (naS s L (nI th) pa pt lv) _ _ _).1 a i = _
    rw [pt1_o (by omega) (by omega) (by omega) (by omega), naS_r (by omega) (by omega)]
end ITM
