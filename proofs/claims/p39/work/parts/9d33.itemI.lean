/-! THE READER, the class's own: an if with its two blocks of one line each. -/
section ITI
variable {en : pN} {d th c M L N k v i j nt key lc lc' c' M' a v5 t o p b v2 v3 v4 z1 z2 : Nat} {NW : Nat → Nat} {C V CL CL' H : fI} {LD LD' : Nat → Int64} {A A' : Nat → fI} {O Q O' Q' : fI} {s s' s1 s2 : qS} {K K' : List (Nat × Nat)} {lw lw' : List Nat} {x z u pa pt lv v1 : Int32} {bl : Nat → List Nat} {Km tm : Nat → Nat} {lo : Option Nat} {e : Nat × Nat}
theorem RB_ad (h : RB s K th c M L nt NW C V lw bl Km tm) (f : adF s s') (hk : LKs s' K') : RB s' K' th c M L nt NW C V lw bl Km tm := by
  have r : ∀ a, a ≠ 1 → s'.1 a = s.1 a := f.1
  have hj : s'.2.1 13 = s.2.1 13 := f.2.2.1 13 (by decide)
  refine ⟨(RSb_ad h.1 f).can, hk, ?_, ?_, fun i hi => ?_⟩
  · rw [r 14 (by decide), hj]; exact h.2.2.1
  · unfold TRs
    rw [r 28 (by decide), r 16 (by decide), r 31 (by decide), r 32 (by decide), r 19 (by decide), r 29 (by decide), r 30 (by decide), r 35 (by decide), r 18 (by decide)]
    exact h.2.2.2.1
  · obtain ⟨k, hk⟩ := h.2.2.2.2 i hi
    refine ⟨k, ?_⟩
    rw [r 14 (by decide)]
    refine LNg_cg hk (fun f hf => ?_) (fun j hj => ?_) (Nat.le_refl _) (Nat.le_refl _)
    · show s'.1 (18 + f) i = s.1 (18 + f) i
      rw [r (18 + f) (by omega)]
    · rw [r 8 (by decide), r 9 (by decide)]
      exact ⟨rfl, rfl⟩
theorem kpL_ad (f : adF s s') : kpL s s' th L := by
  have r : ∀ a, a ≠ 1 → s'.1 a = s.1 a := f.1
  exact ⟨fun i _ => by rw [r 18 (by decide), r 19 (by decide)]; exact ⟨rfl, rfl⟩, fun u _ _ => by rw [r 14 (by decide)]⟩
/-- the end of a block -/
theorem lp_end {la : Int32} (h : RB s ((125, v) :: e :: K) th c M L nt NW C V lw bl Km tm) (hv : v5 ≤ 100) : ∃ s', (∀ D, 5 ≤ D → L_X6_readBlock_35 en D v1 pa pt la (nI v5) s = some (none, s')) ∧ RB s' (e :: K) th c M L nt NW C V lw bl Km tm ∧ kpL s s' th L := by
  obtain ⟨s', e1, g, f⟩ := x_needK (en := en) (d := 0) h.2.1
  refine ⟨s', fun D hD => ?_, RB_ad h f g, kpL_ad f⟩
  obtain ⟨k1, -, k3⟩ := LKs_at h.2.1
  refine le_X6_readBlock_35 en _ _ _ _ _ _ _ _ ?_
  rw [if_neg (by rw [n_lt (by decide) (by omega)]; omega), k1, if_pos (show nI 125 = (125 : Int32) from rfl)]
  refine le_X6_readBlock_108 en _ _ _ ?_
  rw [show qev en D 115 [.ref 65, .int (125 : Int32)] s = _ from qev_up (D := D) (D - 2) 2 (by omega) e1, bV_some]
/-- the beginning of a block -/
theorem rb_beg (h : RB s ((123, v) :: e :: K) th c M L nt NW C V lw bl Km tm) (h1 : v1 ≤ (9 : Int32)) : ∃ s', (∀ D r, 5 ≤ D → L_X6_readBlock_35 en D v1 pa pt (-1 : Int32) (nI 0) s' = some r → qev en (D + 1) 122 [.ref 65, .int v1, .int pa, .int pt] s = some r) ∧ RB s' (e :: K) th c M L nt NW C V lw bl Km tm ∧ kpL s s' th L := by
  obtain ⟨s', e1, g, f⟩ := x_needK (en := en) (d := 0) h.2.1
  refine ⟨s', fun D r hD hr => ?_, RB_ad h f g, kpL_ad f⟩
  obtain ⟨k1, -, k3⟩ := LKs_at h.2.1
  refine le_X6_readBlock en _ _ _ _ _ _ ?_
  rw [k1, if_neg (show ¬ ¬ nI 123 = (123 : Int32) from not_not_intro rfl), if_pos h1]
  refine le_X6_readBlock_23 en _ _ _ _ _ _ ?_
  rw [show qev en D 115 [.ref 65, .int (123 : Int32)] s = _ from qev_up (D := D) (D - 2) 2 (by omega) e1, bV_some]
  exact hr
/-- a block of one simple statement -/
theorem rb_one (h : RB s ((123, z1) :: (N, v) :: K) th c M L nt NW C V lw bl Km tm) (h1 : v1 ≤ (9 : Int32)) (hn : NWc NW) (hth : th < nt) (hnt : nt ≤ 4) (hL : L < 100) (hk : keyB tm th L key pa pt) (hkb : bl key = []) (h17 : ∀ p, key = 5 + 2 * p → s.1 18 p = 17) (hp17 : ∀ p, key = 5 + 2 * p → p < L) (hm : mayT N v) (h125 : N ≠ 125)
    (hst : ∀ s2, RSs s2 th c M (L + 1) NW C V → LKs s2 ((N, v) :: K) → LWc (s2.1 14) (s2.2.1 13) th lw → NWL (fun f => s2.1 (18 + f)) L → SRes en th c M (L + 1) NW C V (s2.1 14) (s2.1 16) (s2.2.1 13) (fun f => s2.1 (18 + f)) (s2.1 8) (s2.1 9) lw L v1 s2 ((125, z2) :: e :: K') k) :
    ∃ s' c' M' lw', QV en 72 122 [.ref 65, .int v1, .int pa, .int pt] s (none, s') ∧ RB s' (e :: K') th c' M' (L + 1) nt NW C V lw' (at1 bl key [L]) (at1 Km L key) (at1 tm L th) ∧ c' ≤ c + 6 ∧ M' ≤ M + 6 ∧ kpL s s' th L ∧ s'.1 18 L = nI k ∧ s'.1 19 L = nI th := by
  obtain ⟨s1, b1, b2, b3⟩ := rb_beg (en := en) (pa := pa) (pt := pt) h h1
  obtain ⟨s2, c', M', lw', i1, i2, i3, i4, i5, i6, i7⟩ := it_S (en := en) (v5 := 0) b2 hn hth hnt hL hk (fun p hp => by rw [(b3.1 p (hp17 p hp)).1]; exact h17 p hp) hm (by decide) h125 hst
  rw [hkb] at i1 i2
  obtain ⟨s3, e1, e2, e3⟩ := lp_end (en := en) (v1 := v1) (pa := pa) (pt := pt) (la := nI L) (v5 := 1) i2 (by decide)
  refine ⟨s3, c', M', lw', fun D hD => ?_, e2, i3, i4, (b3.tr i5 (Nat.le_refl _)).tr e3 (Nat.le_succ _), ?_, ?_⟩
  · obtain ⟨D, rfl⟩ : ∃ z, D = z + 1 := ⟨D - 1, by omega⟩
    exact b1 D _ (by omega) (i1 D (by omega) _ (e1 D (by omega)))
  · exact (e3.1 L (by omega)).1.trans i6
  · exact (e3.1 L (by omega)).2.trans i7
end ITI
