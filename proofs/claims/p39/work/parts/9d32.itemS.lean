/-! THE READER, the class's own: one simple statement in a block, read. -/
/-- what reading statements leaves of what was read before -/
abbrev kpL (s s' : qS) (th L : Nat) : Prop := (∀ i, i < L → s'.1 18 i = s.1 18 i ∧ s'.1 19 i = s.1 19 i) ∧ ∀ u, u < 4 → u ≠ th → s'.1 14 u = s.1 14 u
/-- the loop over a block goes on from s, behind v5 statements, to s' -/
abbrev LPs (en : pN) (cc : Nat) (v1 pa pt la la' : Int32) (v5 : Nat) (s s' : qS) : Prop := ∀ D, cc ≤ D → ∀ r, L_X6_readBlock_35 en D v1 pa pt la' (nI (v5 + 1)) s' = some r → L_X6_readBlock_35 en D v1 pa pt la (nI v5) s = some r
section ITS
variable {en : pN} {d th c M L N k v i j nt key lc lc' c' M' a v5 t o : Nat} {NW : Nat → Nat} {C V CL CL' H : fI} {LD LD' : Nat → Int64} {A A' : Nat → fI} {O Q O' Q' : fI} {s s' s1 s2 : qS} {K K' : List (Nat × Nat)} {lw lw' : List Nat} {x z u pa pt lv v1 : Int32} {bl : Nat → List Nat} {Km tm : Nat → Nat} {lo : Option Nat}
theorem kpL.tr {s'' : qS} {L' : Nat} (h : kpL s s' th L) (g : kpL s' s'' th L') (hL : L ≤ L') : kpL s s'' th L := ⟨fun i hi => ⟨(g.1 i (by omega)).1.trans (h.1 i hi).1, (g.1 i (by omega)).2.trans (h.1 i hi).2⟩, fun u h4 hu => (g.2 u h4 hu).trans (h.2 u h4 hu)⟩
theorem lstX_snoc {l : List Nat} {w : Int32} : lstX (l ++ [j]) w = nI j := by
  unfold lstX
  rw [List.getLast?_append]
  rfl
/-- the statement into the new line -/
theorem it_fin (h : ∀ i, i < L → ∃ k, LNs s (tm i) (clp (s.1 14 (tm i))) M i k) (hnt : nt ≤ 4) (hth : th < nt) (g1 : RSs s2 th c M (L + 1) NW C V) (g3 : LWc (s2.1 14) (s2.2.1 13) th lw) (g4 : TRs s2 nt (L + 1) bl (at1 Km L key) (at1 tm L th)) (f1 : ∀ a, a = 14 ∨ a = 8 ∨ a = 9 → s2.1 a = s.1 a) (f2 : ∀ a, 18 ≤ a → a < 28 → ∀ i, i < L → s2.1 a i = s.1 a i)
    (e2 : LKs s' K') (e3 : RSb s' th c' M' (L + 1) NW C V CL' (s2.1 16) LD' A' O' Q') (e4 : XF th c M c' M' (s2.1 14) CL' (s2.2.1 13) LD' (s2.1 8) (s2.1 9) O' Q' lw lw') (e5 : ∀ f i, (i ≠ L ∨ f = 1 ∨ f = 4 ∨ 9 ≤ f) → A' f i = s2.1 (18 + f) i) (e6 : LNg A' O' Q' th lw'.length M' L k) (h17 : bl (5 + 2 * L) = []) (hbt : ∀ i, i < L → tm i < nt) : RB s' K' th c' M' (L + 1) nt NW C V lw' bl (at1 Km L key) (at1 tm L th) ∧ kpL s s' th L ∧ s'.1 18 L = nI k ∧ s'.1 19 L = nI th := by
  have aa : ∀ f, f < 18 → ∀ i, i < L + 1 → s'.1 (18 + f) i = A' f i := e3.2.2.2.2.2.2.2.2.2.2.1
  have ch : ∀ u, u < 4 → s'.1 14 u = CL' u ∧ s'.1 16 u = s2.1 16 u := e3.2.2.2.2.2.2.2.2.1
  have ld : ∀ j, j < 24 → s'.2.1 13 j = LD' j := e3.2.2.2.2.2.2.2.2.2.1
  have nd : ∀ j, j < M' → s'.1 8 j = O' j ∧ s'.1 9 j = Q' j := e3.2.2.2.2.2.2.2.2.2.2.2
  have rw' : ∀ a, 18 ≤ a → a < 36 → ∀ i, i < L + 1 → (i ≠ L ∨ a = 19 ∨ a = 22 ∨ 27 ≤ a) → s'.1 a i = s2.1 a i := fun a h1 h2 i hi ho => by
    have e := aa (a - 18) (by omega) i hi
    rw [show 18 + (a - 18) = a by omega] at e
    rw [e, e5 (a - 18) i (by omega), show 18 + (a - 18) = a by omega]
  have w' : LWc (s'.1 14) (s'.2.1 13) th lw' := LWc_cg e4.1 (by omega) (ch th (by omega)).1 ld
  have hT : TRs s' nt (L + 1) bl (at1 Km L key) (at1 tm L th) := TRs_cg g4 hnt (fun u hu => (ch u hu).2) (fun a ha i hi => rw' a (by omega) (by omega) i hi (by omega)) (fun p hp hn => rw' 18 (by decide) (by decide) p hp (Or.inl (fun z => hn (by rw [z]; exact h17))))
  refine ⟨⟨e3.can, e2, w', hT, fun i hi => ?_⟩, ⟨fun i hi => ⟨?_, ?_⟩, fun u hu hn => ?_⟩, ?_, ?_⟩
  · by_cases q : i = L
    · subst q
      rw [at1_s]
      refine ⟨k, LNg_cg e6 (fun f hf => ?_) (fun j hj => nd j hj) (Nat.le_refl _) ?_⟩
      · exact aa f (by omega) i (by omega)
      · have := lw_le w'
        rw [w'.1, n_clp (by omega)]
        exact Nat.le_refl _
    · rw [at1_n q]
      have hi' : i < L := by omega
      obtain ⟨k', hk'⟩ := h i hi'
      refine ⟨k', LNg_cg hk' (fun f hf => ?_) (fun j hj => ?_) e4.2.2.2.2.1 ?_⟩
      · show s'.1 (18 + f) i = s.1 (18 + f) i
        rw [rw' (18 + f) (by omega) (by omega) i hi (Or.inl q), f2 (18 + f) (by omega) (by omega) i hi']
      · obtain ⟨n1, n2⟩ := nd j (by have := e4.2.2.2.2.1; omega)
        obtain ⟨n3, n4⟩ := e4.2.2.2.1 j hj
        rw [n1, n2, n3, n4, f1 8 (by decide), f1 9 (by decide)]
        exact ⟨rfl, rfl⟩
      · have e14 : s2.1 14 = s.1 14 := f1 14 (by decide)
        by_cases q2 : tm i = th
        · have l2 := lw_le w'
          have l3 := lw_le g3
          rw [q2, w'.1, n_clp (by omega), ← e14, g3.1, n_clp (by omega)]
          exact e4.2.1
        · have := hbt i hi'
          rw [(ch (tm i) (by omega)).1, e4.2.2.1.1 _ q2, e14]
          exact Nat.le_refl _
  · rw [rw' 18 (by decide) (by decide) i (by omega) (Or.inl (by omega)), f2 18 (by decide) (by decide) i hi]
  · rw [rw' 19 (by decide) (by decide) i (by omega) (Or.inl (by omega)), f2 19 (by decide) (by decide) i hi]
  · rw [(ch u hu).1, e4.2.2.1.1 _ hn, f1 14 (by decide)]
  · exact (aa 0 (by decide) L (by omega)).trans e6.1
  · rw [rw' 19 (by decide) (by decide) L (by omega) (Or.inr (Or.inl rfl)), (g4.2.2.2.2.1 L (by omega)).1.2, at1_s]
/-- one simple statement -/
theorem it_S (h : RB s ((N, v) :: K) th c M L nt NW C V lw bl Km tm) (hn : NWc NW) (hth : th < nt) (hnt : nt ≤ 4) (hL : L < 100) (hk : keyB tm th L key pa pt) (h17 : ∀ p, key = 5 + 2 * p → s.1 18 p = 17) (hm : mayT N v) (hv : v5 ≤ 100) (h125 : N ≠ 125)
    (hst : ∀ s2, RSs s2 th c M (L + 1) NW C V → LKs s2 ((N, v) :: K) → LWc (s2.1 14) (s2.2.1 13) th lw → NWL (fun f => s2.1 (18 + f)) L → SRes en th c M (L + 1) NW C V (s2.1 14) (s2.1 16) (s2.2.1 13) (fun f => s2.1 (18 + f)) (s2.1 8) (s2.1 9) lw L v1 s2 K' k) :
    ∃ s' c' M' lw', LPs en 70 v1 pa pt (lstX (bl key) (-1)) (nI L) v5 s s' ∧ RB s' K' th c' M' (L + 1) nt NW C V lw' (at1 bl key (bl key ++ [L])) (at1 Km L key) (at1 tm L th) ∧ c' ≤ c + 6 ∧ M' ≤ M + 6 ∧ kpL s s' th L ∧ s'.1 18 L = nI k ∧ s'.1 19 L = nI th := by
  obtain ⟨s2, e99, e100, g1, g2, g3, g4, g5, f1, f2, f3⟩ := x_newL (en := en) (lv := v1 - 1) h hth hnt hL hk h17
  obtain ⟨s', c', M', CL', LD', lw', A', O', Q', e1, e2, e3, e4, e5, e6⟩ := hst s2 g1 g2 g3 g5
  have em := x_may (en := en) h.1 hn h.2.1 hm hL
  have h5 : at1 bl key (bl key ++ [L]) (5 + 2 * L) = [] := by
    rw [at1_n (by rcases hk with ⟨a1, -⟩ | ⟨p, b, p1, b1, a1, -⟩ <;> omega)]
    exact TRs_no h.2.2.2.1 hnt (Or.inr rfl)
  obtain ⟨r1, r2, r3, r4⟩ := it_fin h.2.2.2.2 hnt hth g1 g3 g4 (fun a ha => f1 a (by omega)) f2 e2 e3 e4 e5 e6 h5 (fun i hi => (h.2.2.2.1.2.2.2.2.1 i hi).1.1)
  refine ⟨s', c', M', lw', fun D hD r hr => ?_, r1, e4.2.2.2.2.2.2, e4.2.2.2.2.2.1, r2, r3, r4⟩
  refine le_X6_readBlock_35 en _ _ _ _ _ _ _ _ ?_
  obtain ⟨k1, -, k3⟩ := LKs_at h.2.1
  rw [if_neg (by rw [n_lt (by decide) (by omega)]; omega), if_neg (by rw [k1, n_eq (by decide) (by omega)]; exact h125), em D (by omega), bI_some, if_pos (by decide), h.1.2.2.2.2.1.1, qev_up (D := D) (D - 1) 1 (by omega) e99, bI_some, qev_up (D := D) (D - 1) 1 (by omega) e100, bV_some, e1 D (by omega), bV_some, show nI v5 + (1 : Int32) = nI (v5 + 1) from n_ar]
  exact hr
end ITS
