/-! THE READER, the class's own: the tokens that are left; what the tables hold while a program is read. -/
/-- from the token at hand on these are left: kind, value -/
def LKs (s : qS) (K : List (Nat × Nat)) : Prop := ∃ (ts : List (Nat × cTok)) (i : Nat), TC s ts ∧ TA s ts i ∧ (∀ t, t ∈ ts → t.2.1 < 400) ∧ (ts.drop i).map (fun t => (t.2.1, t.2.2.1)) = K.map (fun k => (k.1, Int64.ofNat k.2))
/-- a table with one place anew -/
def up2 (A : Nat → fI) (f i : Nat) (v : Int32) : Nat → fI := fun g => if g = f then upd (A f) i v else A g
/-- the tables while a program is read: c nodes counted, M put, L lines, thread th, names NW, numbers C, first values V, how many locals CL, heads H, locals LD, lines A, nodes O Q -/
abbrev RSb (s : qS) (th c M L : Nat) (NW : Nat → Nat) (C V CL H : fI) (LD : Nat → Int64) (A : Nat → fI) (O Q : fI) : Prop :=
  (s.1 65 11 = 0 ∧ s.1 65 8 = 0 ∧ s.2.2 65 7 = 8) ∧ (s.1 65 13 = nI c ∧ c ≤ 400) ∧ (s.1 7 3 = nI M ∧ M ≤ 400) ∧ (s.1 11 12 = nI L ∧ L ≤ 100) ∧ (s.1 65 14 = nI th ∧ th < 4) ∧ (∀ j, j < 16 → s.2.1 12 j = Int64.ofNat (NW j)) ∧ (∀ j, 7 ≤ j → j ≤ 11 → s.1 11 j = C j) ∧ (∀ j, j < 8 → s.1 15 j = V j) ∧ (∀ u, u < 4 → s.1 14 u = CL u ∧ s.1 16 u = H u) ∧ (∀ j, j < 24 → s.2.1 13 j = LD j) ∧ (∀ f, f < 18 → ∀ i, i < L → s.1 (18 + f) i = A f i) ∧ ∀ j, j < M → s.1 8 j = O j ∧ s.1 9 j = Q j
section RSB
variable {en : pN} {d th c M L k v i j : Nat} {NW : Nat → Nat} {C V CL H : fI} {LD : Nat → Int64} {A : Nat → fI} {O Q : fI} {s s' : qS} {K : List (Nat × Nat)} {x y : Int32} {b : Nat × Nat}
theorem LKs_at (h : LKs s ((k, v) :: K)) : s.1 1 9 = nI k ∧ s.2.1 1 11 = Int64.ofNat v ∧ k < 400 := by
  obtain ⟨ts, i, hC, ⟨hi, h8, h9, h10, h11⟩, hk, he⟩ := h
  rw [List.drop_eq_getElem_cons hi, List.map_cons, List.map_cons] at he
  obtain ⟨e1, -⟩ := List.cons.inj he
  have e2 : ts[i].2.1 = k := (Prod.mk.inj e1).1
  have e3 : ts[i].2.2.1 = Int64.ofNat v := (Prod.mk.inj e1).2
  have := hk _ (List.getElem_mem hi)
  exact ⟨by rw [h9]; show nI ts[i].2.1 = nI k; rw [e2], by rw [h11]; exact e3, by omega⟩
/-- on to the next token -/
theorem x_advK (h : LKs s ((k, v) :: b :: K)) : ∃ s', qev en (d + 1) 167 [.ref 1] s = some (none, s') ∧ LKs s' (b :: K) ∧ adF s s' := by
  obtain ⟨ts, i, hC, ⟨hi, h8, h9, h10, h11⟩, hk, he⟩ := h
  have hl : (ts.drop i).length = (b :: K).length + 1 := by
    have := congrArg List.length he
    rw [List.length_map, List.length_map, List.length_cons] at this
    exact this
  rw [List.length_drop, List.length_cons] at hl
  have hn : tnx ts i = i + 1 := if_pos (by omega)
  have e := c_advance (en := en) (d := d) hC hi h8
  refine ⟨_, e, ⟨ts, tnx ts i, TC.aS hC, TA.aS (by rw [hn]; omega), hk, ?_⟩, ?_⟩
  · rw [hn]
    rw [List.drop_eq_getElem_cons hi, List.map_cons, List.map_cons] at he
    exact (List.cons.inj he).2
  · unfold aS
    refine ⟨fun c hc => ?_, fun j j8 j9 j10 => ?_, fun c hc => ?_, rfl⟩
    · show (uI (uI (uI s 1 8 _) 1 9 _) 1 10 _).1 c = _
      rw [uI_ne hc, uI_ne hc, uI_ne hc]
    · show (uI (uI (uI s 1 8 _) 1 9 _) 1 10 _).1 1 j = _
      rw [g_I, if_neg (fun z => j10 z.2), g_I, if_neg (fun z => j9 z.2), g_I, if_neg (fun z => j8 z.2)]
    · rw [uJ_ne hc]
      rfl
theorem LKs_fr (h : LKs s K) (h1 : s'.1 1 = s.1 1) (h2 : ∀ j, s'.1 4 j = s.1 4 j) (h3 : ∀ j, s'.1 5 j = s.1 5 j) (h4 : s'.2.1 1 = s.2.1 1) (h5 : ∀ j, s'.2.1 6 j = s.2.1 6 j) : LKs s' K := by
  obtain ⟨ts, i, ⟨c1, c2, c3, c4⟩, ⟨hi, a8, a9, a10, a11⟩, hk, he⟩ := h
  refine ⟨ts, i, ⟨by rw [h1]; exact c1, fun j t ht => ?_, c3, c4⟩, ⟨hi, by rw [h1]; exact a8, by rw [h1]; exact a9, by rw [h1]; exact a10, by rw [h4]; exact a11⟩, hk, he⟩
  rw [h2, h3, h5]
  exact c2 j t ht
theorem RSb_ad (h : RSb s th c M L NW C V CL H LD A O Q) (f : adF s s') : RSb s' th c M L NW C V CL H LD A O Q := by
  obtain ⟨f1, -, f3, f4⟩ := f
  obtain ⟨⟨a1, a2, a3⟩, b, m, l, t, n, cc, vv, ch, ld, aa, nd⟩ := h
  refine ⟨⟨?_, ?_, ?_⟩, ?_, ?_, ?_, ?_, ?_, ?_, ?_, ?_, ?_, ?_, ?_⟩
  · rw [f1 65 (by decide)]; exact a1
  · rw [f1 65 (by decide)]; exact a2
  · rw [f4]; exact a3
  · rw [f1 65 (by decide)]; exact b
  · rw [f1 7 (by decide)]; exact m
  · rw [f1 11 (by decide)]; exact l
  · rw [f1 65 (by decide)]; exact t
  · rw [f3 12 (by decide)]; exact n
  · rw [f1 11 (by decide)]; exact cc
  · rw [f1 15 (by decide)]; exact vv
  · rw [f1 14 (by decide), f1 16 (by decide)]; exact ch
  · rw [f3 13 (by decide)]; exact ld
  · intro f hf i hi
    rw [f1 (18 + f) (by omega)]; exact aa f hf i hi
  · rw [f1 8 (by decide), f1 9 (by decide)]; exact nd
/-- a place of a line -/
theorem RSb_at (h : RSb s th c M L NW C V CL H LD A O Q) {f : Nat} (hf : f < 18) : RSb (uI s (18 + f) i x) th c M L NW C V CL H LD (up2 A f i x) O Q := by
  obtain ⟨⟨a1, a2, a3⟩, b, m, l, t, n, cc, vv, ch, ld, aa, nd⟩ := h
  have o : ∀ a, a < 18 ∨ 36 ≤ a → (uI s (18 + f) i x).1 a = s.1 a := fun a ha => uI_ne (by omega)
  refine ⟨⟨?_, ?_, a3⟩, ?_, ?_, ?_, ?_, n, ?_, ?_, ?_, ld, ?_, ?_⟩
  · rw [o 65 (by decide)]; exact a1
  · rw [o 65 (by decide)]; exact a2
  · rw [o 65 (by decide)]; exact b
  · rw [o 7 (by decide)]; exact m
  · rw [o 11 (by decide)]; exact l
  · rw [o 65 (by decide)]; exact t
  · rw [o 11 (by decide)]; exact cc
  · rw [o 15 (by decide)]; exact vv
  · rw [o 14 (by decide), o 16 (by decide)]; exact ch
  · intro g hg j hj
    unfold up2
    by_cases q : g = f
    · subst q
      rw [uI_row, if_pos rfl]
      show (if j = i then x else s.1 (18 + g) j) = if j = i then x else A g j
      rw [aa g hg j hj]
    · rw [uI_ne (by omega), if_neg q]
      exact aa g hg j hj
  · rw [o 8 (by decide), o 9 (by decide)]; exact nd
theorem LKs_uI (h : LKs s K) {a : Nat} (ha : a ≠ 1) (h4 : a ≠ 4) (h5 : a ≠ 5) : LKs (uI s a i x) K :=
  LKs_fr h (uI_ne (by omega)) (fun j => by rw [uI_ne (by omega)]) (fun j => by rw [uI_ne (by omega)]) rfl (fun _ => rfl)
/-- a new line -/
theorem RSb_line (h : RSb s th c M L NW C V CL H LD A O Q) (hL : L < 100) {u pa pt lv : Int32} : RSb (naS s L u pa pt lv) th c M (L + 1) NW C V CL H LD (fun f i => if i = L then naV u pa pt lv (18 + f) else A f i) O Q := by
  obtain ⟨⟨a1, a2, a3⟩, b, m, l, t, n, cc, vv, ch, ld, aa, nd⟩ := h
  have o : ∀ a j, (a < 18 ∨ 36 ≤ a) → ¬ (a = 11 ∧ j = 12) → (naS s L u pa pt lv).1 a j = s.1 a j := fun a j ha hj => (if_neg hj).trans (if_neg (by omega))
  refine ⟨⟨?_, ?_, a3⟩, ?_, ?_, ?_, ?_, n, fun j h1 h2 => ?_, fun j hj => ?_, fun u hu => ⟨?_, ?_⟩, ld, fun f hf i hi => ?_, fun j hj => ⟨?_, ?_⟩⟩
  · rw [o 65 11 (by decide) (by decide)]; exact a1
  · rw [o 65 8 (by decide) (by decide)]; exact a2
  · rw [o 65 13 (by decide) (by decide)]; exact b
  · rw [o 7 3 (by decide) (by decide)]; exact m
  · refine ⟨?_, hL⟩
    show (if (11 : Nat) = 11 ∧ (12 : Nat) = 12 then nI (L + 1) else if 18 ≤ 11 ∧ 11 < 36 ∧ 12 = L then naV u pa pt lv 11 else s.1 11 12) = _
    exact if_pos ⟨rfl, rfl⟩
  · rw [o 65 14 (by decide) (by decide)]; exact t
  · rw [o 11 j (by decide) (by omega)]; exact cc j h1 h2
  · rw [o 15 j (by decide) (by omega)]; exact vv j hj
  · rw [o 14 u (by decide) (by omega)]; exact (ch u hu).1
  · rw [o 16 u (by decide) (by omega)]; exact (ch u hu).2
  · show (if 18 + f = 11 ∧ i = 12 then _ else if 18 ≤ 18 + f ∧ 18 + f < 36 ∧ i = L then naV u pa pt lv (18 + f) else s.1 (18 + f) i) = if i = L then naV u pa pt lv (18 + f) else A f i
    rw [if_neg (by omega)]
    by_cases q : i = L
    · rw [if_pos ⟨by omega, by omega, q⟩, if_pos q]
    · rw [if_neg (fun z => q z.2.2), if_neg q]
      exact aa f hf i (by omega)
  · rw [o 8 j (by decide) (by omega)]; exact (nd j hj).1
  · rw [o 9 j (by decide) (by omega)]; exact (nd j hj).2
theorem LKs_line (h : LKs s K) {u pa pt lv : Int32} : LKs (naS s L u pa pt lv) K := by
  have o : ∀ a j, (a < 18 ∨ 36 ≤ a) → a ≠ 11 → (naS s L u pa pt lv).1 a j = s.1 a j := fun a j ha hj => (if_neg (by omega)).trans (if_neg (by omega))
  exact LKs_fr h (funext fun j => o 1 j (by decide) (by decide)) (fun j => o 4 j (by decide) (by decide)) (fun j => o 5 j (by decide) (by decide)) rfl (fun _ => rfl)
/-- a head of a thread's block -/
theorem RSb_hd (h : RSb s th c M L NW C V CL H LD A O Q) : RSb (uI s 16 i x) th c M L NW C V CL (upd H i x) LD A O Q := by
  obtain ⟨⟨a1, a2, a3⟩, b, m, l, t, n, cc, vv, ch, ld, aa, nd⟩ := h
  have o : ∀ a, a ≠ 16 → (uI s 16 i x).1 a = s.1 a := fun a ha => uI_ne ha
  refine ⟨⟨?_, ?_, a3⟩, ?_, ?_, ?_, ?_, n, ?_, ?_, fun u hu => ⟨?_, ?_⟩, ld, ?_, ?_⟩
  · rw [o 65 (by decide)]; exact a1
  · rw [o 65 (by decide)]; exact a2
  · rw [o 65 (by decide)]; exact b
  · rw [o 7 (by decide)]; exact m
  · rw [o 11 (by decide)]; exact l
  · rw [o 65 (by decide)]; exact t
  · rw [o 11 (by decide)]; exact cc
  · rw [o 15 (by decide)]; exact vv
  · rw [o 14 (by decide)]; exact (ch u hu).1
  · rw [uI_row]
    show (if u = i then x else s.1 16 u) = if u = i then x else H u
    rw [(ch u hu).2]
  · intro f hf i hi
    rw [o (18 + f) (by omega)]; exact aa f hf i hi
  · rw [o 8 (by decide), o 9 (by decide)]; exact nd
/-- one node counted -/
theorem x_cntK (h : RSb s th c M L NW C V CL H LD A O Q) (hk : LKs s K) (hc : c < 400) : ∃ s', qev en (d + 2) 136 [.ref 65] s = some (some (.int 1), s') ∧ LKs s' K ∧ RSb s' th (c + 1) M L NW C V CL H LD A O Q := by
  rcases x_countNode (en := en) (d := d) h.2.1.1 h.2.1.2 with ⟨-, e⟩ | ⟨e, -⟩
  · refine ⟨_, e, LKs_uI hk (by decide) (by decide) (by decide), ?_⟩
    obtain ⟨⟨a1, a2, a3⟩, b, m, l, t, n, cc, vv, ch, ld, aa, nd⟩ := h
    have o : ∀ a, a ≠ 65 → (uI s 65 13 (nI (c + 1))).1 a = s.1 a := fun a ha => uI_ne ha
    refine ⟨⟨?_, ?_, a3⟩, ⟨?_, hc⟩, ?_, ?_, ?_, n, ?_, ?_, ?_, ld, ?_, ?_⟩
    · rw [g_I, if_neg (by decide)]; exact a1
    · rw [g_I, if_neg (by decide)]; exact a2
    · rw [g_I, if_pos ⟨rfl, rfl⟩]
    · rw [o 7 (by decide)]; exact m
    · rw [o 11 (by decide)]; exact l
    · rw [g_I, if_neg (by decide)]; exact t
    · rw [o 11 (by decide)]; exact cc
    · rw [o 15 (by decide)]; exact vv
    · rw [o 14 (by decide), o 16 (by decide)]; exact ch
    · intro f hf i hi
      rw [o (18 + f) (by omega)]; exact aa f hf i hi
    · rw [o 8 (by decide), o 9 (by decide)]; exact nd
  · omega
/-- a node put -/
theorem x_putK (h : RSb s th c M L NW C V CL H LD A O Q) (hk : LKs s K) (hM : M < 400) : ∃ s', qev en (d + 2) 76 [.ref 7, .int x, .int y] s = some (none, s') ∧ LKs s' K ∧ RSb s' th c (M + 1) L NW C V CL H LD A (upd O M x) (upd Q M y) := by
  have e3 := h.2.2.1.1
  have l7 : lc 7 = 4 := rfl
  have l8 : ln (7 + 1) = 500 := rfl
  have l9 : ln (7 + 2) = 500 := rfl
  refine ⟨uI (uI (uI s 8 M x) 9 M y) 7 3 (nI (M + 1)), ?_, ?_, ?_⟩
  · refine le_X4_put en (d + 1) 7 x y s _ ?_
    rw [gd_true l7, e3, l8, if_neg (show ¬ (Int32.ofNat 500 : Int32) ≤ nI M from nI_ge (by omega) (by decide))]
    have e1 : qev en (d + 1) 77 [.ref 7, .int (nI M), .int x, .int y] s = some (none, uI (uI s 8 M x) 9 M y) := by
      refine le_X4_set en d 7 (nI M) x y s _ ?_
      simp only [gd_true l7, l8, l9, gd_true (inB_nI (show M < 500 by omega) (show 500 < 2 ^ 31 by decide)), nm_eq, n_cl (show M < 2 ^ 31 by omega)]
    rw [e1, bV_some, nm_eq]
    have e4 : (uI (uI s 8 M x) 9 M y).1 7 3 = nI M := by rw [g_I, if_neg (fun z => absurd z.1 (by decide)), g_I, if_neg (fun z => absurd z.1 (by decide))]; exact e3
    rw [e4, nI_1]
  · exact LKs_uI (LKs_uI (LKs_uI hk (by decide) (by decide) (by decide)) (by decide) (by decide) (by decide)) (by decide) (by decide) (by decide)
  · obtain ⟨⟨a1, a2, a3⟩, b, m, l, t, n, cc, vv, ch, ld, aa, nd⟩ := h
    have o : ∀ a, a ≠ 7 → a ≠ 8 → a ≠ 9 → (uI (uI (uI s 8 M x) 9 M y) 7 3 (nI (M + 1))).1 a = s.1 a := fun a h7 h8 h9 => by rw [uI_ne h7, uI_ne h9, uI_ne h8]
    refine ⟨⟨?_, ?_, a3⟩, ?_, ⟨?_, hM⟩, ?_, ?_, n, ?_, ?_, ?_, ld, ?_, fun j hj => ⟨?_, ?_⟩⟩
    · rw [o 65 (by decide) (by decide) (by decide)]; exact a1
    · rw [o 65 (by decide) (by decide) (by decide)]; exact a2
    · rw [o 65 (by decide) (by decide) (by decide)]; exact b
    · rw [g_I, if_pos ⟨rfl, rfl⟩]
    · rw [o 11 (by decide) (by decide) (by decide)]; exact l
    · rw [o 65 (by decide) (by decide) (by decide)]; exact t
    · rw [o 11 (by decide) (by decide) (by decide)]; exact cc
    · rw [o 15 (by decide) (by decide) (by decide)]; exact vv
    · rw [o 14 (by decide) (by decide) (by decide), o 16 (by decide) (by decide) (by decide)]; exact ch
    · intro f hf i hi
      rw [o (18 + f) (by omega) (by omega) (by omega)]; exact aa f hf i hi
    · rw [g_I, if_neg (by omega), g_I, if_neg (by omega), g_I]
      show (if (8 : Nat) = 8 ∧ j = M then x else s.1 8 j) = if j = M then x else O j
      by_cases q : j = M
      · rw [if_pos ⟨rfl, q⟩, if_pos q]
      · rw [if_neg (fun z => q z.2), if_neg q]; exact (nd j (by omega)).1
    · rw [g_I, if_neg (by omega), g_I]
      show (if (9 : Nat) = 9 ∧ j = M then y else (uI s 8 M x).1 9 j) = if j = M then y else Q j
      by_cases q : j = M
      · rw [if_pos ⟨rfl, q⟩, if_pos q]
      · rw [if_neg (fun z => q z.2), if_neg q, g_I, if_neg (by omega)]; exact (nd j (by omega)).2
/-- what is needed stands there -/
theorem x_needK (hk : LKs s ((k, v) :: b :: K)) : ∃ s', qev en (d + 2) 115 [.ref 65, .int (nI k)] s = some (none, s') ∧ LKs s' (b :: K) ∧ adF s s' := by
  obtain ⟨s', e, h1, h2⟩ := x_advK (en := en) (d := d) hk
  refine ⟨s', le_X6_need en (d + 1) (nI k) s _ ?_, h1, h2⟩
  rw [(LKs_at hk).1, if_neg (fun z => z rfl), e, bV_some]
theorem x_skipY (hk : LKs s ((k, v) :: b :: K)) : ∃ s', qev en (d + 2) 116 [.ref 65, .int (nI k)] s = some (some (.int 1), s') ∧ LKs s' (b :: K) ∧ adF s s' := by
  obtain ⟨s', e, h1, h2⟩ := x_advK (en := en) (d := d) hk
  refine ⟨s', le_X6_skip en (d + 1) (nI k) s _ ?_, h1, h2⟩
  rw [(LKs_at hk).1, if_neg (fun z => z rfl)]
  refine le_X6_skip_16 en (d + 1) 1 s _ ?_
  rw [if_neg (by decide), e, bV_some, gd_true (Or.inr rfl)]
theorem x_skipN (hk : LKs s ((k, v) :: K)) (hx : x ≠ nI k) : qev en (d + 2) 116 [.ref 65, .int x] s = some (some (.int 0), s) := by
  refine le_X6_skip en (d + 1) x s _ ?_
  rw [(LKs_at hk).1, if_pos (fun z => hx z.symm)]
  refine le_X6_skip_16 en (d + 1) 0 s _ ?_
  rw [if_pos rfl, gd_true (Or.inl rfl)]
end RSB
